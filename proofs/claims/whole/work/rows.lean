section
-- ===== PART A: goes FIRST, ahead of the names: the tables' words, and 'selects' of the private methods out of them =====
/-- a private method of a class that the tables say can be made, by its rows of tables_1 -/
def lw_okq (q : MethodName × Nat) : Prop := (q.1.cls ≠ "java/lang/invoke/MethodHandle" ∧ q.1.cls ≠ "java/lang/invoke/VarHandle") ∧ Cond.instantiable q.1.cls q.2 ∈ tables_1 ∧ Cond.privateMethod q.1 ∈ tables_1 ∧ Cond.instanceMethod q.1 ∈ tables_1
theorem lw_p0 : lw_okq (⟨"TubeWords", "refuse", "(I)I"⟩, 16) := ⟨⟨by decide +kernel, by decide +kernel⟩, List.mem_of_getElem? (i := 8) (by decide +kernel), List.mem_of_getElem? (i := 118) (by decide +kernel), List.mem_of_getElem? (i := 119) (by decide +kernel)⟩
theorem lw_p1 : lw_okq (⟨"TubeWords", "makeRow", "(II)V"⟩, 16) := ⟨⟨by decide +kernel, by decide +kernel⟩, List.mem_of_getElem? (i := 8) (by decide +kernel), List.mem_of_getElem? (i := 122) (by decide +kernel), List.mem_of_getElem? (i := 123) (by decide +kernel)⟩
theorem lw_p2 : lw_okq (⟨"TubeWords$Store", "read", "([BI)I"⟩, 8) := ⟨⟨by decide +kernel, by decide +kernel⟩, List.mem_of_getElem? (i := 20) (by decide +kernel), List.mem_of_getElem? (i := 170) (by decide +kernel), List.mem_of_getElem? (i := 171) (by decide +kernel)⟩
theorem lw_p3 : lw_okq (⟨"TubeWords$Store", "takeSign", "(II)Z"⟩, 8) := ⟨⟨by decide +kernel, by decide +kernel⟩, List.mem_of_getElem? (i := 20) (by decide +kernel), List.mem_of_getElem? (i := 174) (by decide +kernel), List.mem_of_getElem? (i := 175) (by decide +kernel)⟩
theorem lw_p4 : lw_okq (⟨"TubeWords$Store", "beginAnew", "()V"⟩, 8) := ⟨⟨by decide +kernel, by decide +kernel⟩, List.mem_of_getElem? (i := 20) (by decide +kernel), List.mem_of_getElem? (i := 187) (by decide +kernel), List.mem_of_getElem? (i := 188) (by decide +kernel)⟩
theorem lw_p5 : lw_okq (⟨"TubeWords$Store", "takeFrom", "(LTubeWords$Store;)V"⟩, 8) := ⟨⟨by decide +kernel, by decide +kernel⟩, List.mem_of_getElem? (i := 20) (by decide +kernel), List.mem_of_getElem? (i := 191) (by decide +kernel), List.mem_of_getElem? (i := 192) (by decide +kernel)⟩
theorem lw_p6 : lw_okq (⟨"TubeWords$Store", "has", "(I)Z"⟩, 8) := ⟨⟨by decide +kernel, by decide +kernel⟩, List.mem_of_getElem? (i := 20) (by decide +kernel), List.mem_of_getElem? (i := 200) (by decide +kernel), List.mem_of_getElem? (i := 201) (by decide +kernel)⟩
theorem lw_p7 : lw_okq (⟨"TubeWords$Store", "fact", "(II)I"⟩, 8) := ⟨⟨by decide +kernel, by decide +kernel⟩, List.mem_of_getElem? (i := 20) (by decide +kernel), List.mem_of_getElem? (i := 204) (by decide +kernel), List.mem_of_getElem? (i := 205) (by decide +kernel)⟩
theorem lw_p8 : lw_okq (⟨"TubeWords$Store", "isReady", "(I)Z"⟩, 8) := ⟨⟨by decide +kernel, by decide +kernel⟩, List.mem_of_getElem? (i := 20) (by decide +kernel), List.mem_of_getElem? (i := 208) (by decide +kernel), List.mem_of_getElem? (i := 209) (by decide +kernel)⟩
theorem lw_p9 : lw_okq (⟨"TubeWords$Store", "cameTo", "(I)I"⟩, 8) := ⟨⟨by decide +kernel, by decide +kernel⟩, List.mem_of_getElem? (i := 20) (by decide +kernel), List.mem_of_getElem? (i := 212) (by decide +kernel), List.mem_of_getElem? (i := 213) (by decide +kernel)⟩
theorem lw_p10 : lw_okq (⟨"TubeWords$Store", "comesOut", "(I)I"⟩, 8) := ⟨⟨by decide +kernel, by decide +kernel⟩, List.mem_of_getElem? (i := 20) (by decide +kernel), List.mem_of_getElem? (i := 216) (by decide +kernel), List.mem_of_getElem? (i := 217) (by decide +kernel)⟩
theorem lw_p11 : lw_okq (⟨"TubeWords$Store", "sentAs", "(III)I"⟩, 8) := ⟨⟨by decide +kernel, by decide +kernel⟩, List.mem_of_getElem? (i := 20) (by decide +kernel), List.mem_of_getElem? (i := 220) (by decide +kernel), List.mem_of_getElem? (i := 221) (by decide +kernel)⟩
theorem lw_p12 : lw_okq (⟨"TubeWords$Store", "isStruck", "(I)Z"⟩, 8) := ⟨⟨by decide +kernel, by decide +kernel⟩, List.mem_of_getElem? (i := 20) (by decide +kernel), List.mem_of_getElem? (i := 224) (by decide +kernel), List.mem_of_getElem? (i := 225) (by decide +kernel)⟩
theorem lw_p13 : lw_okq (⟨"TubeWords$Store", "ticksTillStruck", "(I)I"⟩, 8) := ⟨⟨by decide +kernel, by decide +kernel⟩, List.mem_of_getElem? (i := 20) (by decide +kernel), List.mem_of_getElem? (i := 228) (by decide +kernel), List.mem_of_getElem? (i := 229) (by decide +kernel)⟩
theorem lw_p14 : lw_okq (⟨"TubeWords$Store", "isOf", "(II)Z"⟩, 8) := ⟨⟨by decide +kernel, by decide +kernel⟩, List.mem_of_getElem? (i := 20) (by decide +kernel), List.mem_of_getElem? (i := 236) (by decide +kernel), List.mem_of_getElem? (i := 237) (by decide +kernel)⟩
theorem lw_p15 : lw_okq (⟨"TubeWords$Store", "tells", "(II)I"⟩, 8) := ⟨⟨by decide +kernel, by decide +kernel⟩, List.mem_of_getElem? (i := 20) (by decide +kernel), List.mem_of_getElem? (i := 240) (by decide +kernel), List.mem_of_getElem? (i := 241) (by decide +kernel)⟩
def lw_privs_1 : List (MethodName × Nat) := [(⟨"TubeWords", "refuse", "(I)I"⟩, 16), (⟨"TubeWords", "makeRow", "(II)V"⟩, 16), (⟨"TubeWords$Store", "read", "([BI)I"⟩, 8), (⟨"TubeWords$Store", "takeSign", "(II)Z"⟩, 8), (⟨"TubeWords$Store", "beginAnew", "()V"⟩, 8), (⟨"TubeWords$Store", "takeFrom", "(LTubeWords$Store;)V"⟩, 8), (⟨"TubeWords$Store", "has", "(I)Z"⟩, 8), (⟨"TubeWords$Store", "fact", "(II)I"⟩, 8), (⟨"TubeWords$Store", "isReady", "(I)Z"⟩, 8), (⟨"TubeWords$Store", "cameTo", "(I)I"⟩, 8), (⟨"TubeWords$Store", "comesOut", "(I)I"⟩, 8), (⟨"TubeWords$Store", "sentAs", "(III)I"⟩, 8), (⟨"TubeWords$Store", "isStruck", "(I)Z"⟩, 8), (⟨"TubeWords$Store", "ticksTillStruck", "(I)I"⟩, 8), (⟨"TubeWords$Store", "isOf", "(II)Z"⟩, 8), (⟨"TubeWords$Store", "tells", "(II)I"⟩, 8)]
theorem lw_r1 : ∀ q ∈ lw_privs_1, lw_okq q := List.forall_mem_cons.mpr ⟨lw_p0, List.forall_mem_cons.mpr ⟨lw_p1, List.forall_mem_cons.mpr ⟨lw_p2, List.forall_mem_cons.mpr ⟨lw_p3, List.forall_mem_cons.mpr ⟨lw_p4, List.forall_mem_cons.mpr ⟨lw_p5, List.forall_mem_cons.mpr ⟨lw_p6, List.forall_mem_cons.mpr ⟨lw_p7, List.forall_mem_cons.mpr ⟨lw_p8, List.forall_mem_cons.mpr ⟨lw_p9, List.forall_mem_cons.mpr ⟨lw_p10, List.forall_mem_cons.mpr ⟨lw_p11, List.forall_mem_cons.mpr ⟨lw_p12, List.forall_mem_cons.mpr ⟨lw_p13, List.forall_mem_cons.mpr ⟨lw_p14, List.forall_mem_cons.mpr ⟨lw_p15, fun _ h => absurd h List.not_mem_nil⟩⟩⟩⟩⟩⟩⟩⟩⟩⟩⟩⟩⟩⟩⟩⟩
theorem lw_p16 : lw_okq (⟨"TubeWords", "hasRoomFor", "(I)Z"⟩, 16) := ⟨⟨by decide +kernel, by decide +kernel⟩, List.mem_of_getElem? (i := 8) (by decide +kernel), List.mem_of_getElem? (i := 248) (by decide +kernel), List.mem_of_getElem? (i := 249) (by decide +kernel)⟩
theorem lw_p17 : lw_okq (⟨"TubeWords", "addDeed", "(III)V"⟩, 16) := ⟨⟨by decide +kernel, by decide +kernel⟩, List.mem_of_getElem? (i := 8) (by decide +kernel), List.mem_of_getElem? (i := 252) (by decide +kernel), List.mem_of_getElem? (i := 253) (by decide +kernel)⟩
theorem lw_p18 : lw_okq (⟨"TubeWords", "perform", "(I)V"⟩, 16) := ⟨⟨by decide +kernel, by decide +kernel⟩, List.mem_of_getElem? (i := 8) (by decide +kernel), List.mem_of_getElem? (i := 256) (by decide +kernel), List.mem_of_getElem? (i := 257) (by decide +kernel)⟩
theorem lw_p19 : lw_okq (⟨"TubeWords$Store", "goOn", "(I)V"⟩, 8) := ⟨⟨by decide +kernel, by decide +kernel⟩, List.mem_of_getElem? (i := 20) (by decide +kernel), List.mem_of_getElem? (i := 260) (by decide +kernel), List.mem_of_getElem? (i := 261) (by decide +kernel)⟩
theorem lw_p20 : lw_okq (⟨"TubeWords$Store", "letPass", "()V"⟩, 8) := ⟨⟨by decide +kernel, by decide +kernel⟩, List.mem_of_getElem? (i := 20) (by decide +kernel), List.mem_of_getElem? (i := 264) (by decide +kernel), List.mem_of_getElem? (i := 265) (by decide +kernel)⟩
theorem lw_p21 : lw_okq (⟨"TubeWords$Store", "turnSlot", "(II)V"⟩, 8) := ⟨⟨by decide +kernel, by decide +kernel⟩, List.mem_of_getElem? (i := 20) (by decide +kernel), List.mem_of_getElem? (i := 269) (by decide +kernel), List.mem_of_getElem? (i := 270) (by decide +kernel)⟩
theorem lw_p22 : lw_okq (⟨"TubeWords$Store", "swapWays", "(II)V"⟩, 8) := ⟨⟨by decide +kernel, by decide +kernel⟩, List.mem_of_getElem? (i := 20) (by decide +kernel), List.mem_of_getElem? (i := 273) (by decide +kernel), List.mem_of_getElem? (i := 274) (by decide +kernel)⟩
theorem lw_p23 : lw_okq (⟨"TubeWords$Store", "putWord", "(II)V"⟩, 8) := ⟨⟨by decide +kernel, by decide +kernel⟩, List.mem_of_getElem? (i := 20) (by decide +kernel), List.mem_of_getElem? (i := 277) (by decide +kernel), List.mem_of_getElem? (i := 278) (by decide +kernel)⟩
theorem lw_p24 : lw_okq (⟨"TubeWords$Store", "pulses", "()I"⟩, 8) := ⟨⟨by decide +kernel, by decide +kernel⟩, List.mem_of_getElem? (i := 20) (by decide +kernel), List.mem_of_getElem? (i := 281) (by decide +kernel), List.mem_of_getElem? (i := 282) (by decide +kernel)⟩
theorem lw_p25 : lw_okq (⟨"TubeWords$Store", "canHave", "(II)Z"⟩, 8) := ⟨⟨by decide +kernel, by decide +kernel⟩, List.mem_of_getElem? (i := 20) (by decide +kernel), List.mem_of_getElem? (i := 303) (by decide +kernel), List.mem_of_getElem? (i := 304) (by decide +kernel)⟩
theorem lw_p26 : lw_okq (⟨"TubeWords", "doAgain", "()V"⟩, 16) := ⟨⟨by decide +kernel, by decide +kernel⟩, List.mem_of_getElem? (i := 8) (by decide +kernel), List.mem_of_getElem? (i := 311) (by decide +kernel), List.mem_of_getElem? (i := 312) (by decide +kernel)⟩
theorem lw_p27 : lw_okq (⟨"TubeWords$Store", "hasWordsOf", "(LTubeWords$Store;)Z"⟩, 8) := ⟨⟨by decide +kernel, by decide +kernel⟩, List.mem_of_getElem? (i := 20) (by decide +kernel), List.mem_of_getElem? (i := 347) (by decide +kernel), List.mem_of_getElem? (i := 348) (by decide +kernel)⟩
theorem lw_p28 : lw_okq (⟨"TubeWords$Store", "emptyOnes", "()I"⟩, 8) := ⟨⟨by decide +kernel, by decide +kernel⟩, List.mem_of_getElem? (i := 20) (by decide +kernel), List.mem_of_getElem? (i := 355) (by decide +kernel), List.mem_of_getElem? (i := 356) (by decide +kernel)⟩
theorem lw_p29 : lw_okq (⟨"TubeWords", "comesBack", "(II)I"⟩, 16) := ⟨⟨by decide +kernel, by decide +kernel⟩, List.mem_of_getElem? (i := 8) (by decide +kernel), List.mem_of_getElem? (i := 368) (by decide +kernel), List.mem_of_getElem? (i := 369) (by decide +kernel)⟩
theorem lw_p30 : lw_okq (⟨"TubeWords", "lookThroughHeard", "(I)I"⟩, 16) := ⟨⟨by decide +kernel, by decide +kernel⟩, List.mem_of_getElem? (i := 8) (by decide +kernel), List.mem_of_getElem? (i := 376) (by decide +kernel), List.mem_of_getElem? (i := 377) (by decide +kernel)⟩
theorem lw_p31 : lw_okq (⟨"TubeWords", "kindsHeard", "(II)I"⟩, 16) := ⟨⟨by decide +kernel, by decide +kernel⟩, List.mem_of_getElem? (i := 8) (by decide +kernel), List.mem_of_getElem? (i := 380) (by decide +kernel), List.mem_of_getElem? (i := 381) (by decide +kernel)⟩
def lw_privs_2 : List (MethodName × Nat) := [(⟨"TubeWords", "hasRoomFor", "(I)Z"⟩, 16), (⟨"TubeWords", "addDeed", "(III)V"⟩, 16), (⟨"TubeWords", "perform", "(I)V"⟩, 16), (⟨"TubeWords$Store", "goOn", "(I)V"⟩, 8), (⟨"TubeWords$Store", "letPass", "()V"⟩, 8), (⟨"TubeWords$Store", "turnSlot", "(II)V"⟩, 8), (⟨"TubeWords$Store", "swapWays", "(II)V"⟩, 8), (⟨"TubeWords$Store", "putWord", "(II)V"⟩, 8), (⟨"TubeWords$Store", "pulses", "()I"⟩, 8), (⟨"TubeWords$Store", "canHave", "(II)Z"⟩, 8), (⟨"TubeWords", "doAgain", "()V"⟩, 16), (⟨"TubeWords$Store", "hasWordsOf", "(LTubeWords$Store;)Z"⟩, 8), (⟨"TubeWords$Store", "emptyOnes", "()I"⟩, 8), (⟨"TubeWords", "comesBack", "(II)I"⟩, 16), (⟨"TubeWords", "lookThroughHeard", "(I)I"⟩, 16), (⟨"TubeWords", "kindsHeard", "(II)I"⟩, 16)]
theorem lw_r2 : ∀ q ∈ lw_privs_2, lw_okq q := List.forall_mem_cons.mpr ⟨lw_p16, List.forall_mem_cons.mpr ⟨lw_p17, List.forall_mem_cons.mpr ⟨lw_p18, List.forall_mem_cons.mpr ⟨lw_p19, List.forall_mem_cons.mpr ⟨lw_p20, List.forall_mem_cons.mpr ⟨lw_p21, List.forall_mem_cons.mpr ⟨lw_p22, List.forall_mem_cons.mpr ⟨lw_p23, List.forall_mem_cons.mpr ⟨lw_p24, List.forall_mem_cons.mpr ⟨lw_p25, List.forall_mem_cons.mpr ⟨lw_p26, List.forall_mem_cons.mpr ⟨lw_p27, List.forall_mem_cons.mpr ⟨lw_p28, List.forall_mem_cons.mpr ⟨lw_p29, List.forall_mem_cons.mpr ⟨lw_p30, List.forall_mem_cons.mpr ⟨lw_p31, fun _ h => absurd h List.not_mem_nil⟩⟩⟩⟩⟩⟩⟩⟩⟩⟩⟩⟩⟩⟩⟩⟩
theorem lw_p32 : lw_okq (⟨"TubeWords", "isHeard", "(II)Z"⟩, 16) := ⟨⟨by decide +kernel, by decide +kernel⟩, List.mem_of_getElem? (i := 8) (by decide +kernel), List.mem_of_getElem? (i := 384) (by decide +kernel), List.mem_of_getElem? (i := 385) (by decide +kernel)⟩
theorem lw_p33 : lw_okq (⟨"TubeWords", "lookAhead", "(I)V"⟩, 16) := ⟨⟨by decide +kernel, by decide +kernel⟩, List.mem_of_getElem? (i := 8) (by decide +kernel), List.mem_of_getElem? (i := 396) (by decide +kernel), List.mem_of_getElem? (i := 397) (by decide +kernel)⟩
theorem lw_p34 : lw_okq (⟨"TubeWords", "greatestPart", "(II)I"⟩, 16) := ⟨⟨by decide +kernel, by decide +kernel⟩, List.mem_of_getElem? (i := 8) (by decide +kernel), List.mem_of_getElem? (i := 400) (by decide +kernel), List.mem_of_getElem? (i := 401) (by decide +kernel)⟩
theorem lw_p35 : lw_okq (⟨"TubeWords$Store", "ends", "()I"⟩, 8) := ⟨⟨by decide +kernel, by decide +kernel⟩, List.mem_of_getElem? (i := 20) (by decide +kernel), List.mem_of_getElem? (i := 411) (by decide +kernel), List.mem_of_getElem? (i := 412) (by decide +kernel)⟩
theorem lw_p36 : lw_okq (⟨"TubeWords", "playOut", "(III)I"⟩, 16) := ⟨⟨by decide +kernel, by decide +kernel⟩, List.mem_of_getElem? (i := 8) (by decide +kernel), List.mem_of_getElem? (i := 415) (by decide +kernel), List.mem_of_getElem? (i := 416) (by decide +kernel)⟩
theorem lw_p37 : lw_okq (⟨"TubeWords", "leftWithEnds", "(I)I"⟩, 16) := ⟨⟨by decide +kernel, by decide +kernel⟩, List.mem_of_getElem? (i := 8) (by decide +kernel), List.mem_of_getElem? (i := 419) (by decide +kernel), List.mem_of_getElem? (i := 420) (by decide +kernel)⟩
theorem lw_p38 : lw_okq (⟨"TubeWords$Store", "putEnds", "(I)V"⟩, 8) := ⟨⟨by decide +kernel, by decide +kernel⟩, List.mem_of_getElem? (i := 20) (by decide +kernel), List.mem_of_getElem? (i := 423) (by decide +kernel), List.mem_of_getElem? (i := 424) (by decide +kernel)⟩
theorem lw_p39 : lw_okq (⟨"TubeWords", "tellChance", "(III)V"⟩, 16) := ⟨⟨by decide +kernel, by decide +kernel⟩, List.mem_of_getElem? (i := 8) (by decide +kernel), List.mem_of_getElem? (i := 431) (by decide +kernel), List.mem_of_getElem? (i := 432) (by decide +kernel)⟩
theorem lw_p40 : lw_okq (⟨"TubeWords", "weightOf", "(II)J"⟩, 16) := ⟨⟨by decide +kernel, by decide +kernel⟩, List.mem_of_getElem? (i := 8) (by decide +kernel), List.mem_of_getElem? (i := 435) (by decide +kernel), List.mem_of_getElem? (i := 436) (by decide +kernel)⟩
theorem lw_p41 : lw_okq (⟨"TubeWords", "leftWithout", "(II)I"⟩, 16) := ⟨⟨by decide +kernel, by decide +kernel⟩, List.mem_of_getElem? (i := 8) (by decide +kernel), List.mem_of_getElem? (i := 439) (by decide +kernel), List.mem_of_getElem? (i := 440) (by decide +kernel)⟩
theorem lw_p42 : lw_okq (⟨"TubeWords$Store", "empty", "(I)V"⟩, 8) := ⟨⟨by decide +kernel, by decide +kernel⟩, List.mem_of_getElem? (i := 20) (by decide +kernel), List.mem_of_getElem? (i := 443) (by decide +kernel), List.mem_of_getElem? (i := 444) (by decide +kernel)⟩
theorem lw_p43 : lw_okq (⟨"TubeWords", "tellLowest", "(JJ)V"⟩, 16) := ⟨⟨by decide +kernel, by decide +kernel⟩, List.mem_of_getElem? (i := 8) (by decide +kernel), List.mem_of_getElem? (i := 448) (by decide +kernel), List.mem_of_getElem? (i := 449) (by decide +kernel)⟩
theorem lw_p44 : lw_okq (⟨"TubeWords", "doByLot", "(I)V"⟩, 16) := ⟨⟨by decide +kernel, by decide +kernel⟩, List.mem_of_getElem? (i := 8) (by decide +kernel), List.mem_of_getElem? (i := 462) (by decide +kernel), List.mem_of_getElem? (i := 463) (by decide +kernel)⟩
theorem lw_p45 : lw_okq (⟨"TubeWords", "countOf", "(I)I"⟩, 16) := ⟨⟨by decide +kernel, by decide +kernel⟩, List.mem_of_getElem? (i := 8) (by decide +kernel), List.mem_of_getElem? (i := 482) (by decide +kernel), List.mem_of_getElem? (i := 483) (by decide +kernel)⟩
theorem lw_p46 : lw_okq (⟨"TubeWords$Store", "slots", "()I"⟩, 8) := ⟨⟨by decide +kernel, by decide +kernel⟩, List.mem_of_getElem? (i := 20) (by decide +kernel), List.mem_of_getElem? (i := 486) (by decide +kernel), List.mem_of_getElem? (i := 487) (by decide +kernel)⟩
theorem lw_p47 : lw_okq (⟨"TubeWords$Store", "manyOf", "(I)I"⟩, 8) := ⟨⟨by decide +kernel, by decide +kernel⟩, List.mem_of_getElem? (i := 20) (by decide +kernel), List.mem_of_getElem? (i := 493) (by decide +kernel), List.mem_of_getElem? (i := 494) (by decide +kernel)⟩
def lw_privs_3 : List (MethodName × Nat) := [(⟨"TubeWords", "isHeard", "(II)Z"⟩, 16), (⟨"TubeWords", "lookAhead", "(I)V"⟩, 16), (⟨"TubeWords", "greatestPart", "(II)I"⟩, 16), (⟨"TubeWords$Store", "ends", "()I"⟩, 8), (⟨"TubeWords", "playOut", "(III)I"⟩, 16), (⟨"TubeWords", "leftWithEnds", "(I)I"⟩, 16), (⟨"TubeWords$Store", "putEnds", "(I)V"⟩, 8), (⟨"TubeWords", "tellChance", "(III)V"⟩, 16), (⟨"TubeWords", "weightOf", "(II)J"⟩, 16), (⟨"TubeWords", "leftWithout", "(II)I"⟩, 16), (⟨"TubeWords$Store", "empty", "(I)V"⟩, 8), (⟨"TubeWords", "tellLowest", "(JJ)V"⟩, 16), (⟨"TubeWords", "doByLot", "(I)V"⟩, 16), (⟨"TubeWords", "countOf", "(I)I"⟩, 16), (⟨"TubeWords$Store", "slots", "()I"⟩, 8), (⟨"TubeWords$Store", "manyOf", "(I)I"⟩, 8)]
theorem lw_r3 : ∀ q ∈ lw_privs_3, lw_okq q := List.forall_mem_cons.mpr ⟨lw_p32, List.forall_mem_cons.mpr ⟨lw_p33, List.forall_mem_cons.mpr ⟨lw_p34, List.forall_mem_cons.mpr ⟨lw_p35, List.forall_mem_cons.mpr ⟨lw_p36, List.forall_mem_cons.mpr ⟨lw_p37, List.forall_mem_cons.mpr ⟨lw_p38, List.forall_mem_cons.mpr ⟨lw_p39, List.forall_mem_cons.mpr ⟨lw_p40, List.forall_mem_cons.mpr ⟨lw_p41, List.forall_mem_cons.mpr ⟨lw_p42, List.forall_mem_cons.mpr ⟨lw_p43, List.forall_mem_cons.mpr ⟨lw_p44, List.forall_mem_cons.mpr ⟨lw_p45, List.forall_mem_cons.mpr ⟨lw_p46, List.forall_mem_cons.mpr ⟨lw_p47, fun _ h => absurd h List.not_mem_nil⟩⟩⟩⟩⟩⟩⟩⟩⟩⟩⟩⟩⟩⟩⟩⟩
theorem lw_p48 : lw_okq (⟨"TubeWordsModel", "found", "(I)I"⟩, 26) := ⟨⟨by decide +kernel, by decide +kernel⟩, List.mem_of_getElem? (i := 512) (by decide +kernel), List.mem_of_getElem? (i := 608) (by decide +kernel), List.mem_of_getElem? (i := 609) (by decide +kernel)⟩
theorem lw_p49 : lw_okq (⟨"TubeWordsModel", "makesRow", "(II)V"⟩, 26) := ⟨⟨by decide +kernel, by decide +kernel⟩, List.mem_of_getElem? (i := 512) (by decide +kernel), List.mem_of_getElem? (i := 612) (by decide +kernel), List.mem_of_getElem? (i := 613) (by decide +kernel)⟩
theorem lw_p50 : lw_okq (⟨"TubeWordsModel", "placeOf", "(II)I"⟩, 26) := ⟨⟨by decide +kernel, by decide +kernel⟩, List.mem_of_getElem? (i := 512) (by decide +kernel), List.mem_of_getElem? (i := 620) (by decide +kernel), List.mem_of_getElem? (i := 621) (by decide +kernel)⟩
theorem lw_p51 : lw_okq (⟨"TubeWordsModel", "tells", "(II)I"⟩, 26) := ⟨⟨by decide +kernel, by decide +kernel⟩, List.mem_of_getElem? (i := 512) (by decide +kernel), List.mem_of_getElem? (i := 624) (by decide +kernel), List.mem_of_getElem? (i := 625) (by decide +kernel)⟩
theorem lw_p52 : lw_okq (⟨"TubeWordsModel", "reading", "(I)I"⟩, 26) := ⟨⟨by decide +kernel, by decide +kernel⟩, List.mem_of_getElem? (i := 512) (by decide +kernel), List.mem_of_getElem? (i := 659) (by decide +kernel), List.mem_of_getElem? (i := 660) (by decide +kernel)⟩
theorem lw_p53 : lw_okq (⟨"TubeWordsModel", "isTube", "(I)Z"⟩, 26) := ⟨⟨by decide +kernel, by decide +kernel⟩, List.mem_of_getElem? (i := 512) (by decide +kernel), List.mem_of_getElem? (i := 677) (by decide +kernel), List.mem_of_getElem? (i := 678) (by decide +kernel)⟩
theorem lw_p54 : lw_okq (⟨"TubeWordsModel", "isReady", "([II)Z"⟩, 26) := ⟨⟨by decide +kernel, by decide +kernel⟩, List.mem_of_getElem? (i := 512) (by decide +kernel), List.mem_of_getElem? (i := 681) (by decide +kernel), List.mem_of_getElem? (i := 682) (by decide +kernel)⟩
theorem lw_p55 : lw_okq (⟨"TubeWordsModel", "sentNow", "(II)I"⟩, 26) := ⟨⟨by decide +kernel, by decide +kernel⟩, List.mem_of_getElem? (i := 512) (by decide +kernel), List.mem_of_getElem? (i := 685) (by decide +kernel), List.mem_of_getElem? (i := 686) (by decide +kernel)⟩
theorem lw_p56 : lw_okq (⟨"TubeWordsModel", "fromWhich", "([II)I"⟩, 26) := ⟨⟨by decide +kernel, by decide +kernel⟩, List.mem_of_getElem? (i := 512) (by decide +kernel), List.mem_of_getElem? (i := 689) (by decide +kernel), List.mem_of_getElem? (i := 690) (by decide +kernel)⟩
theorem lw_p57 : lw_okq (⟨"TubeWordsModel", "outOf", "([II)I"⟩, 26) := ⟨⟨by decide +kernel, by decide +kernel⟩, List.mem_of_getElem? (i := 512) (by decide +kernel), List.mem_of_getElem? (i := 693) (by decide +kernel), List.mem_of_getElem? (i := 694) (by decide +kernel)⟩
theorem lw_p58 : lw_okq (⟨"TubeWordsModel", "sentBy", "([IIII)I"⟩, 26) := ⟨⟨by decide +kernel, by decide +kernel⟩, List.mem_of_getElem? (i := 512) (by decide +kernel), List.mem_of_getElem? (i := 697) (by decide +kernel), List.mem_of_getElem? (i := 698) (by decide +kernel)⟩
theorem lw_p59 : lw_okq (⟨"TubeWordsModel", "isMarked", "([II)Z"⟩, 26) := ⟨⟨by decide +kernel, by decide +kernel⟩, List.mem_of_getElem? (i := 512) (by decide +kernel), List.mem_of_getElem? (i := 701) (by decide +kernel), List.mem_of_getElem? (i := 702) (by decide +kernel)⟩
theorem lw_p60 : lw_okq (⟨"TubeWordsModel", "isA", "(II)Z"⟩, 26) := ⟨⟨by decide +kernel, by decide +kernel⟩, List.mem_of_getElem? (i := 512) (by decide +kernel), List.mem_of_getElem? (i := 709) (by decide +kernel), List.mem_of_getElem? (i := 710) (by decide +kernel)⟩
theorem lw_p61 : lw_okq (⟨"TubeWordsModel", "notes", "()V"⟩, 26) := ⟨⟨by decide +kernel, by decide +kernel⟩, List.mem_of_getElem? (i := 512) (by decide +kernel), List.mem_of_getElem? (i := 717) (by decide +kernel), List.mem_of_getElem? (i := 718) (by decide +kernel)⟩
theorem lw_p62 : lw_okq (⟨"TubeWordsModel", "tickOn", "([I)V"⟩, 26) := ⟨⟨by decide +kernel, by decide +kernel⟩, List.mem_of_getElem? (i := 512) (by decide +kernel), List.mem_of_getElem? (i := 721) (by decide +kernel), List.mem_of_getElem? (i := 722) (by decide +kernel)⟩
theorem lw_p63 : lw_okq (⟨"TubeWordsModel", "pulses", "([I)I"⟩, 26) := ⟨⟨by decide +kernel, by decide +kernel⟩, List.mem_of_getElem? (i := 512) (by decide +kernel), List.mem_of_getElem? (i := 725) (by decide +kernel), List.mem_of_getElem? (i := 726) (by decide +kernel)⟩
def lw_privs_4 : List (MethodName × Nat) := [(⟨"TubeWordsModel", "found", "(I)I"⟩, 26), (⟨"TubeWordsModel", "makesRow", "(II)V"⟩, 26), (⟨"TubeWordsModel", "placeOf", "(II)I"⟩, 26), (⟨"TubeWordsModel", "tells", "(II)I"⟩, 26), (⟨"TubeWordsModel", "reading", "(I)I"⟩, 26), (⟨"TubeWordsModel", "isTube", "(I)Z"⟩, 26), (⟨"TubeWordsModel", "isReady", "([II)Z"⟩, 26), (⟨"TubeWordsModel", "sentNow", "(II)I"⟩, 26), (⟨"TubeWordsModel", "fromWhich", "([II)I"⟩, 26), (⟨"TubeWordsModel", "outOf", "([II)I"⟩, 26), (⟨"TubeWordsModel", "sentBy", "([IIII)I"⟩, 26), (⟨"TubeWordsModel", "isMarked", "([II)Z"⟩, 26), (⟨"TubeWordsModel", "isA", "(II)Z"⟩, 26), (⟨"TubeWordsModel", "notes", "()V"⟩, 26), (⟨"TubeWordsModel", "tickOn", "([I)V"⟩, 26), (⟨"TubeWordsModel", "pulses", "([I)I"⟩, 26)]
theorem lw_r4 : ∀ q ∈ lw_privs_4, lw_okq q := List.forall_mem_cons.mpr ⟨lw_p48, List.forall_mem_cons.mpr ⟨lw_p49, List.forall_mem_cons.mpr ⟨lw_p50, List.forall_mem_cons.mpr ⟨lw_p51, List.forall_mem_cons.mpr ⟨lw_p52, List.forall_mem_cons.mpr ⟨lw_p53, List.forall_mem_cons.mpr ⟨lw_p54, List.forall_mem_cons.mpr ⟨lw_p55, List.forall_mem_cons.mpr ⟨lw_p56, List.forall_mem_cons.mpr ⟨lw_p57, List.forall_mem_cons.mpr ⟨lw_p58, List.forall_mem_cons.mpr ⟨lw_p59, List.forall_mem_cons.mpr ⟨lw_p60, List.forall_mem_cons.mpr ⟨lw_p61, List.forall_mem_cons.mpr ⟨lw_p62, List.forall_mem_cons.mpr ⟨lw_p63, fun _ h => absurd h List.not_mem_nil⟩⟩⟩⟩⟩⟩⟩⟩⟩⟩⟩⟩⟩⟩⟩⟩
theorem lw_p64 : lw_okq (⟨"TubeWordsModel", "isWord", "(II)Z"⟩, 26) := ⟨⟨by decide +kernel, by decide +kernel⟩, List.mem_of_getElem? (i := 512) (by decide +kernel), List.mem_of_getElem? (i := 747) (by decide +kernel), List.mem_of_getElem? (i := 748) (by decide +kernel)⟩
theorem lw_p65 : lw_okq (⟨"TubeWordsModel", "asItIs", "()V"⟩, 26) := ⟨⟨by decide +kernel, by decide +kernel⟩, List.mem_of_getElem? (i := 512) (by decide +kernel), List.mem_of_getElem? (i := 767) (by decide +kernel), List.mem_of_getElem? (i := 768) (by decide +kernel)⟩
theorem lw_p66 : lw_okq (⟨"TubeWordsModel", "goes", "(I)V"⟩, 26) := ⟨⟨by decide +kernel, by decide +kernel⟩, List.mem_of_getElem? (i := 512) (by decide +kernel), List.mem_of_getElem? (i := 771) (by decide +kernel), List.mem_of_getElem? (i := 772) (by decide +kernel)⟩
theorem lw_p67 : lw_okq (⟨"TubeWordsModel", "againBy", "(II)I"⟩, 26) := ⟨⟨by decide +kernel, by decide +kernel⟩, List.mem_of_getElem? (i := 512) (by decide +kernel), List.mem_of_getElem? (i := 799) (by decide +kernel), List.mem_of_getElem? (i := 800) (by decide +kernel)⟩
theorem lw_p68 : lw_okq (⟨"TubeWordsModel", "heardOf", "(I)I"⟩, 26) := ⟨⟨by decide +kernel, by decide +kernel⟩, List.mem_of_getElem? (i := 512) (by decide +kernel), List.mem_of_getElem? (i := 807) (by decide +kernel), List.mem_of_getElem? (i := 808) (by decide +kernel)⟩
theorem lw_p69 : lw_okq (⟨"TubeWordsModel", "kindsOf", "(II)I"⟩, 26) := ⟨⟨by decide +kernel, by decide +kernel⟩, List.mem_of_getElem? (i := 512) (by decide +kernel), List.mem_of_getElem? (i := 811) (by decide +kernel), List.mem_of_getElem? (i := 812) (by decide +kernel)⟩
theorem lw_p70 : lw_okq (⟨"TubeWordsModel", "isHeard", "(II)Z"⟩, 26) := ⟨⟨by decide +kernel, by decide +kernel⟩, List.mem_of_getElem? (i := 512) (by decide +kernel), List.mem_of_getElem? (i := 815) (by decide +kernel), List.mem_of_getElem? (i := 816) (by decide +kernel)⟩
theorem lw_p71 : lw_okq (⟨"TubeWordsModel", "greatest", "(III)I"⟩, 26) := ⟨⟨by decide +kernel, by decide +kernel⟩, List.mem_of_getElem? (i := 512) (by decide +kernel), List.mem_of_getElem? (i := 827) (by decide +kernel), List.mem_of_getElem? (i := 828) (by decide +kernel)⟩
theorem lw_p72 : lw_okq (⟨"TubeWordsModel", "worthOf", "(II)I"⟩, 26) := ⟨⟨by decide +kernel, by decide +kernel⟩, List.mem_of_getElem? (i := 512) (by decide +kernel), List.mem_of_getElem? (i := 835) (by decide +kernel), List.mem_of_getElem? (i := 836) (by decide +kernel)⟩
theorem lw_p73 : lw_okq (⟨"TubeWordsModel", "failing", "(III)I"⟩, 26) := ⟨⟨by decide +kernel, by decide +kernel⟩, List.mem_of_getElem? (i := 512) (by decide +kernel), List.mem_of_getElem? (i := 843) (by decide +kernel), List.mem_of_getElem? (i := 844) (by decide +kernel)⟩
theorem lw_p74 : lw_okq (⟨"TubeWordsModel", "tellsPart", "(JJ)I"⟩, 26) := ⟨⟨by decide +kernel, by decide +kernel⟩, List.mem_of_getElem? (i := 512) (by decide +kernel), List.mem_of_getElem? (i := 847) (by decide +kernel), List.mem_of_getElem? (i := 848) (by decide +kernel)⟩
theorem lw_p75 : lw_okq (⟨"TubeWordsModel", "lot", "(I)V"⟩, 26) := ⟨⟨by decide +kernel, by decide +kernel⟩, List.mem_of_getElem? (i := 512) (by decide +kernel), List.mem_of_getElem? (i := 865) (by decide +kernel), List.mem_of_getElem? (i := 866) (by decide +kernel)⟩
theorem lw_p76 : lw_okq (⟨"TubeWordsModel", "slots", "()I"⟩, 26) := ⟨⟨by decide +kernel, by decide +kernel⟩, List.mem_of_getElem? (i := 512) (by decide +kernel), List.mem_of_getElem? (i := 885) (by decide +kernel), List.mem_of_getElem? (i := 886) (by decide +kernel)⟩
theorem lw_p77 : lw_okq (⟨"TubeWordsModel", "empties", "()I"⟩, 26) := ⟨⟨by decide +kernel, by decide +kernel⟩, List.mem_of_getElem? (i := 512) (by decide +kernel), List.mem_of_getElem? (i := 889) (by decide +kernel), List.mem_of_getElem? (i := 890) (by decide +kernel)⟩
theorem lw_p78 : lw_okq (⟨"TubeWordsModel", "keptMany", "()I"⟩, 26) := ⟨⟨by decide +kernel, by decide +kernel⟩, List.mem_of_getElem? (i := 512) (by decide +kernel), List.mem_of_getElem? (i := 896) (by decide +kernel), List.mem_of_getElem? (i := 897) (by decide +kernel)⟩
theorem lw_p79 : lw_okq (⟨"TubeWordsModel", "those", "(I)I"⟩, 26) := ⟨⟨by decide +kernel, by decide +kernel⟩, List.mem_of_getElem? (i := 512) (by decide +kernel), List.mem_of_getElem? (i := 900) (by decide +kernel), List.mem_of_getElem? (i := 901) (by decide +kernel)⟩
def lw_privs_5 : List (MethodName × Nat) := [(⟨"TubeWordsModel", "isWord", "(II)Z"⟩, 26), (⟨"TubeWordsModel", "asItIs", "()V"⟩, 26), (⟨"TubeWordsModel", "goes", "(I)V"⟩, 26), (⟨"TubeWordsModel", "againBy", "(II)I"⟩, 26), (⟨"TubeWordsModel", "heardOf", "(I)I"⟩, 26), (⟨"TubeWordsModel", "kindsOf", "(II)I"⟩, 26), (⟨"TubeWordsModel", "isHeard", "(II)Z"⟩, 26), (⟨"TubeWordsModel", "greatest", "(III)I"⟩, 26), (⟨"TubeWordsModel", "worthOf", "(II)I"⟩, 26), (⟨"TubeWordsModel", "failing", "(III)I"⟩, 26), (⟨"TubeWordsModel", "tellsPart", "(JJ)I"⟩, 26), (⟨"TubeWordsModel", "lot", "(I)V"⟩, 26), (⟨"TubeWordsModel", "slots", "()I"⟩, 26), (⟨"TubeWordsModel", "empties", "()I"⟩, 26), (⟨"TubeWordsModel", "keptMany", "()I"⟩, 26), (⟨"TubeWordsModel", "those", "(I)I"⟩, 26)]
theorem lw_r5 : ∀ q ∈ lw_privs_5, lw_okq q := List.forall_mem_cons.mpr ⟨lw_p64, List.forall_mem_cons.mpr ⟨lw_p65, List.forall_mem_cons.mpr ⟨lw_p66, List.forall_mem_cons.mpr ⟨lw_p67, List.forall_mem_cons.mpr ⟨lw_p68, List.forall_mem_cons.mpr ⟨lw_p69, List.forall_mem_cons.mpr ⟨lw_p70, List.forall_mem_cons.mpr ⟨lw_p71, List.forall_mem_cons.mpr ⟨lw_p72, List.forall_mem_cons.mpr ⟨lw_p73, List.forall_mem_cons.mpr ⟨lw_p74, List.forall_mem_cons.mpr ⟨lw_p75, List.forall_mem_cons.mpr ⟨lw_p76, List.forall_mem_cons.mpr ⟨lw_p77, List.forall_mem_cons.mpr ⟨lw_p78, List.forall_mem_cons.mpr ⟨lw_p79, fun _ h => absurd h List.not_mem_nil⟩⟩⟩⟩⟩⟩⟩⟩⟩⟩⟩⟩⟩⟩⟩⟩
theorem lw_p80 : lw_okq (⟨"TubeWordsModel", "tubeOf", "(II)I"⟩, 26) := ⟨⟨by decide +kernel, by decide +kernel⟩, List.mem_of_getElem? (i := 512) (by decide +kernel), List.mem_of_getElem? (i := 919) (by decide +kernel), List.mem_of_getElem? (i := 920) (by decide +kernel)⟩
def lw_privs_6 : List (MethodName × Nat) := [(⟨"TubeWordsModel", "tubeOf", "(II)I"⟩, 26)]
theorem lw_r6 : ∀ q ∈ lw_privs_6, lw_okq q := List.forall_mem_cons.mpr ⟨lw_p80, fun _ h => absurd h List.not_mem_nil⟩
def lw_privs : List (MethodName × Nat) := lw_privs_1 ++ (lw_privs_2 ++ (lw_privs_3 ++ (lw_privs_4 ++ (lw_privs_5 ++ (lw_privs_6)))))
def lw_tbl : List Cond := k2_sels lw_privs ++ tables_1
theorem lw_privs_ok : ∀ q ∈ lw_privs, lw_okq q := by
  show ∀ q ∈ lw_privs_1 ++ (lw_privs_2 ++ (lw_privs_3 ++ (lw_privs_4 ++ (lw_privs_5 ++ (lw_privs_6))))), lw_okq q
  exact List.forall_mem_append.mpr ⟨lw_r1, List.forall_mem_append.mpr ⟨lw_r2, List.forall_mem_append.mpr ⟨lw_r3, List.forall_mem_append.mpr ⟨lw_r4, List.forall_mem_append.mpr ⟨lw_r5, lw_r6⟩⟩⟩⟩⟩
end
section
def RX0 : String := "TubeWords$Store"
def TX0 : u_T := fun k => match k with
  | 0 => ("TubeWords$Store", "kind", "[I", true)
  | 1 => ("TubeWords$Store", "length", "[I", true)
  | 2 => ("TubeWords$Store", "mark", "[I", true)
  | 3 => ("TubeWords$Store", "word", "[I", true)
  | 4 => ("TubeWords$Store", "way", "[I", true)
  | 5 => ("TubeWords$Store", "came", "[I", true)
  | 6 => ("TubeWords$Store", "size", "I", false)
  | _ => ("TubeWords$Store", "time", "I", false)
def tyX0 : Nat → FieldType := fun k => match k with
  | 0 => .array .int
  | 1 => .array .int
  | 2 => .array .int
  | 3 => .array .int
  | 4 => .array .int
  | 5 => .array .int
  | 6 => .int
  | _ => .int
abbrev wsX00 : List Cond := u_ws RX0 TX0 8
theorem nmX0 : ∀ a, a < 8 → ∀ b, b < 8 → a ≠ b → (TX0 a).2.1 ≠ (TX0 b).2.1 := by decide +kernel
theorem tyX0_ok : ∀ k, k < 8 → parseFieldDescriptor (TX0 k).2.2.1 = some (tyX0 k) := by decide +kernel
abbrev cX0_init : ByteArray := prog_2_method_1_code
def yX0_init : MethodName := ⟨RX0, "<init>", "()V"⟩
abbrev cX0_has : ByteArray := prog_2_method_2_code
def yX0_has : MethodName := ⟨RX0, "has", "(I)Z"⟩
abbrev cX0_canHave : ByteArray := prog_2_method_3_code
def yX0_canHave : MethodName := ⟨RX0, "canHave", "(II)Z"⟩
abbrev cX0_read : ByteArray := prog_2_method_4_code
def yX0_read : MethodName := ⟨RX0, "read", "([BI)I"⟩
abbrev cX0_takeSign : ByteArray := prog_2_method_5_code
def yX0_takeSign : MethodName := ⟨RX0, "takeSign", "(II)Z"⟩
abbrev cX0_kindOf : ByteArray := prog_2_method_6_code
def yX0_kindOf : MethodName := ⟨RX0, "kindOf", "(I)I"⟩
abbrev cX0_beginAnew : ByteArray := prog_2_method_7_code
def yX0_beginAnew : MethodName := ⟨RX0, "beginAnew", "()V"⟩
abbrev cX0_takeFrom : ByteArray := prog_2_method_8_code
def yX0_takeFrom : MethodName := ⟨RX0, "takeFrom", "(LTubeWords$Store;)V"⟩
abbrev cX0_goOn : ByteArray := prog_2_method_9_code
def yX0_goOn : MethodName := ⟨RX0, "goOn", "(I)V"⟩
abbrev cX0_letPass : ByteArray := prog_2_method_10_code
def yX0_letPass : MethodName := ⟨RX0, "letPass", "()V"⟩
abbrev cX0_turnSlot : ByteArray := prog_2_method_11_code
def yX0_turnSlot : MethodName := ⟨RX0, "turnSlot", "(II)V"⟩
abbrev cX0_swapWays : ByteArray := prog_2_method_12_code
def yX0_swapWays : MethodName := ⟨RX0, "swapWays", "(II)V"⟩
abbrev cX0_putWord : ByteArray := prog_2_method_13_code
def yX0_putWord : MethodName := ⟨RX0, "putWord", "(II)V"⟩
abbrev cX0_putEnds : ByteArray := prog_2_method_14_code
def yX0_putEnds : MethodName := ⟨RX0, "putEnds", "(I)V"⟩
abbrev cX0_empty : ByteArray := prog_2_method_15_code
def yX0_empty : MethodName := ⟨RX0, "empty", "(I)V"⟩
abbrev cX0_isOf : ByteArray := prog_2_method_16_code
def yX0_isOf : MethodName := ⟨RX0, "isOf", "(II)Z"⟩
abbrev cX0_isReady : ByteArray := prog_2_method_17_code
def yX0_isReady : MethodName := ⟨RX0, "isReady", "(I)Z"⟩
abbrev cX0_comesOut : ByteArray := prog_2_method_18_code
def yX0_comesOut : MethodName := ⟨RX0, "comesOut", "(I)I"⟩
abbrev cX0_cameTo : ByteArray := prog_2_method_19_code
def yX0_cameTo : MethodName := ⟨RX0, "cameTo", "(I)I"⟩
abbrev cX0_isStruck : ByteArray := prog_2_method_20_code
def yX0_isStruck : MethodName := ⟨RX0, "isStruck", "(I)Z"⟩
abbrev cX0_ticksTillStruck : ByteArray := prog_2_method_21_code
def yX0_ticksTillStruck : MethodName := ⟨RX0, "ticksTillStruck", "(I)I"⟩
abbrev cX0_sentAs : ByteArray := prog_2_method_22_code
def yX0_sentAs : MethodName := ⟨RX0, "sentAs", "(III)I"⟩
abbrev cX0_tells : ByteArray := prog_2_method_23_code
def yX0_tells : MethodName := ⟨RX0, "tells", "(II)I"⟩
abbrev cX0_fact : ByteArray := prog_2_method_24_code
def yX0_fact : MethodName := ⟨RX0, "fact", "(II)I"⟩
abbrev cX0_pulses : ByteArray := prog_2_method_25_code
def yX0_pulses : MethodName := ⟨RX0, "pulses", "()I"⟩
abbrev cX0_slots : ByteArray := prog_2_method_26_code
def yX0_slots : MethodName := ⟨RX0, "slots", "()I"⟩
abbrev cX0_emptyOnes : ByteArray := prog_2_method_27_code
def yX0_emptyOnes : MethodName := ⟨RX0, "emptyOnes", "()I"⟩
abbrev cX0_ends : ByteArray := prog_2_method_28_code
def yX0_ends : MethodName := ⟨RX0, "ends", "()I"⟩
abbrev cX0_manyOf : ByteArray := prog_2_method_29_code
def yX0_manyOf : MethodName := ⟨RX0, "manyOf", "(I)I"⟩
abbrev cX0_hasWordsOf : ByteArray := prog_2_method_30_code
def yX0_hasWordsOf : MethodName := ⟨RX0, "hasWordsOf", "(LTubeWords$Store;)Z"⟩
def RX1 : String := "TubeWords"
def TX1 : u_T := fun k => match k with
  | 0 => ("TubeWords", "rows", "[[I", true)
  | 1 => ("TubeWords", "rowSizes", "[I", true)
  | 2 => ("TubeWords", "texts", "[[B", true)
  | 3 => ("TubeWords", "textSizes", "[I", true)
  | 4 => ("TubeWords", "now", "LTubeWords$Store;", true)
  | 5 => ("TubeWords", "aside", "LTubeWords$Store;", true)
  | 6 => ("TubeWords", "deeds", "[I", true)
  | 7 => ("TubeWords", "deedCount", "I", false)
  | 8 => ("TubeWords", "keptDeeds", "[[I", true)
  | 9 => ("TubeWords", "keptSizes", "[I", true)
  | 10 => ("TubeWords", "looks", "[[I", true)
  | 11 => ("TubeWords", "findingCounts", "[I", true)
  | 12 => ("TubeWords", "latestFinding", "I", false)
  | 13 => ("TubeWords", "told", "I", false)
  | 14 => ("TubeWords", "toldUpper", "J", false)
  | _ => ("TubeWords", "toldLower", "J", false)
def tyX1 : Nat → FieldType := fun k => match k with
  | 0 => .array (.array .int)
  | 1 => .array .int
  | 2 => .array (.array .byte)
  | 3 => .array .int
  | 4 => .object "TubeWords$Store"
  | 5 => .object "TubeWords$Store"
  | 6 => .array .int
  | 7 => .int
  | 8 => .array (.array .int)
  | 9 => .array .int
  | 10 => .array (.array .int)
  | 11 => .array .int
  | 12 => .int
  | 13 => .int
  | 14 => .long
  | _ => .long
abbrev wsX10 : List Cond := u_ws RX1 TX1 16
theorem nmX1 : ∀ a, a < 16 → ∀ b, b < 16 → a ≠ b → (TX1 a).2.1 ≠ (TX1 b).2.1 := by decide +kernel
theorem tyX1_ok : ∀ k, k < 16 → parseFieldDescriptor (TX1 k).2.2.1 = some (tyX1 k) := by decide +kernel
abbrev cX1_init : ByteArray := prog_1_method_1_code
def yX1_init : MethodName := ⟨RX1, "<init>", "()V"⟩
abbrev cX1_row : ByteArray := prog_1_method_2_code
def yX1_row : MethodName := ⟨RX1, "row", "(II)I"⟩
abbrev cX1_lay : ByteArray := prog_1_method_3_code
def yX1_lay : MethodName := ⟨RX1, "lay", "(III)I"⟩
abbrev cX1_at : ByteArray := prog_1_method_4_code
def yX1_at : MethodName := ⟨RX1, "at", "(II)I"⟩
abbrev cX1_tear : ByteArray := prog_1_method_5_code
def yX1_tear : MethodName := ⟨RX1, "tear", "(I)I"⟩
abbrev cX1_copy : ByteArray := prog_1_method_6_code
def yX1_copy : MethodName := ⟨RX1, "copy", "(IIIII)I"⟩
abbrev cX1_mean : ByteArray := prog_1_method_7_code
def yX1_mean : MethodName := ⟨RX1, "mean", "(I)I"⟩
abbrev cX1_text : ByteArray := prog_1_method_8_code
def yX1_text : MethodName := ⟨RX1, "text", "(II)I"⟩
abbrev cX1_put : ByteArray := prog_1_method_9_code
def yX1_put : MethodName := ⟨RX1, "put", "(III)I"⟩
abbrev cX1_fault : ByteArray := prog_1_method_10_code
def yX1_fault : MethodName := ⟨RX1, "fault", "(I)I"⟩
abbrev cX1_store : ByteArray := prog_1_method_11_code
def yX1_store : MethodName := ⟨RX1, "store", "(I)I"⟩
abbrev cX1_tube : ByteArray := prog_1_method_12_code
def yX1_tube : MethodName := ⟨RX1, "tube", "(II)I"⟩
abbrev cX1_mark : ByteArray := prog_1_method_13_code
def yX1_mark : MethodName := ⟨RX1, "mark", "(II)I"⟩
abbrev cX1_tick : ByteArray := prog_1_method_14_code
def yX1_tick : MethodName := ⟨RX1, "tick", "()I"⟩
abbrev cX1_set : ByteArray := prog_1_method_15_code
def yX1_set : MethodName := ⟨RX1, "set", "(II)I"⟩
abbrev cX1_swap : ByteArray := prog_1_method_16_code
def yX1_swap : MethodName := ⟨RX1, "swap", "(II)I"⟩
abbrev cX1_word : ByteArray := prog_1_method_17_code
def yX1_word : MethodName := ⟨RX1, "word", "(II)I"⟩
abbrev cX1_undo : ByteArray := prog_1_method_18_code
def yX1_undo : MethodName := ⟨RX1, "undo", "(I)I"⟩
abbrev cX1_keep : ByteArray := prog_1_method_19_code
def yX1_keep : MethodName := ⟨RX1, "keep", "(I)I"⟩
abbrev cX1_on : ByteArray := prog_1_method_20_code
def yX1_on : MethodName := ⟨RX1, "on", "(I)I"⟩
abbrev cX1_later : ByteArray := prog_1_method_21_code
def yX1_later : MethodName := ⟨RX1, "later", "(II)I"⟩
abbrev cX1_hears : ByteArray := prog_1_method_22_code
def yX1_hears : MethodName := ⟨RX1, "hears", "(III)I"⟩
abbrev cX1_finds : ByteArray := prog_1_method_23_code
def yX1_finds : MethodName := ⟨RX1, "finds", "(III)I"⟩
abbrev cX1_round : ByteArray := prog_1_method_24_code
def yX1_round : MethodName := ⟨RX1, "round", "()I"⟩
abbrev cX1_left : ByteArray := prog_1_method_25_code
def yX1_left : MethodName := ⟨RX1, "left", "(I)I"⟩
abbrev cX1_best : ByteArray := prog_1_method_26_code
def yX1_best : MethodName := ⟨RX1, "best", "(I)I"⟩
abbrev cX1_safest : ByteArray := prog_1_method_27_code
def yX1_safest : MethodName := ⟨RX1, "safest", "(I)I"⟩
abbrev cX1_kinds : ByteArray := prog_1_method_28_code
def yX1_kinds : MethodName := ⟨RX1, "kinds", "(II)I"⟩
abbrev cX1_words : ByteArray := prog_1_method_29_code
def yX1_words : MethodName := ⟨RX1, "words", "(II)I"⟩
abbrev cX1_test : ByteArray := prog_1_method_30_code
def yX1_test : MethodName := ⟨RX1, "test", "(II)I"⟩
abbrev cX1_duel : ByteArray := prog_1_method_31_code
def yX1_duel : MethodName := ⟨RX1, "duel", "(I)I"⟩
abbrev cX1_odds : ByteArray := prog_1_method_32_code
def yX1_odds : MethodName := ⟨RX1, "odds", "(III)I"⟩
abbrev cX1_mid : ByteArray := prog_1_method_33_code
def yX1_mid : MethodName := ⟨RX1, "mid", "(II)I"⟩
abbrev cX1_lots : ByteArray := prog_1_method_34_code
def yX1_lots : MethodName := ⟨RX1, "lots", "(II)I"⟩
abbrev cX1_asked : ByteArray := prog_1_method_35_code
def yX1_asked : MethodName := ⟨RX1, "asked", "()I"⟩
abbrev cX1_upper : ByteArray := prog_1_method_36_code
def yX1_upper : MethodName := ⟨RX1, "upper", "()J"⟩
abbrev cX1_lower : ByteArray := prog_1_method_37_code
def yX1_lower : MethodName := ⟨RX1, "lower", "()J"⟩
abbrev cX1_count : ByteArray := prog_1_method_38_code
def yX1_count : MethodName := ⟨RX1, "count", "(I)I"⟩
abbrev cX1_finding : ByteArray := prog_1_method_39_code
def yX1_finding : MethodName := ⟨RX1, "finding", "()I"⟩
abbrev cX1_findings : ByteArray := prog_1_method_40_code
def yX1_findings : MethodName := ⟨RX1, "findings", "(I)I"⟩
abbrev cX1_digest : ByteArray := prog_1_method_41_code
def yX1_digest : MethodName := ⟨RX1, "digest", "()J"⟩
abbrev cX1_refuse : ByteArray := prog_1_method_42_code
def yX1_refuse : MethodName := ⟨RX1, "refuse", "(I)I"⟩
abbrev cX1_isWithin : ByteArray := prog_1_method_43_code
def yX1_isWithin : MethodName := ⟨RX1, "isWithin", "(III)Z"⟩
abbrev cX1_isRow : ByteArray := prog_1_method_44_code
def yX1_isRow : MethodName := ⟨RX1, "isRow", "(I)Z"⟩
abbrev cX1_isText : ByteArray := prog_1_method_45_code
def yX1_isText : MethodName := ⟨RX1, "isText", "(I)Z"⟩
abbrev cX1_isPlaceToKeep : ByteArray := prog_1_method_46_code
def yX1_isPlaceToKeep : MethodName := ⟨RX1, "isPlaceToKeep", "(I)Z"⟩
abbrev cX1_lookForPlace : ByteArray := prog_1_method_47_code
def yX1_lookForPlace : MethodName := ⟨RX1, "lookForPlace", "(II)I"⟩
abbrev cX1_hasPlaces : ByteArray := prog_1_method_48_code
def yX1_hasPlaces : MethodName := ⟨RX1, "hasPlaces", "(III)Z"⟩
abbrev cX1_lookThroughHeard : ByteArray := prog_1_method_49_code
def yX1_lookThroughHeard : MethodName := ⟨RX1, "lookThroughHeard", "(I)I"⟩
abbrev cX1_makeRow : ByteArray := prog_1_method_50_code
def yX1_makeRow : MethodName := ⟨RX1, "makeRow", "(II)V"⟩
abbrev cX1_hasRoomFor : ByteArray := prog_1_method_51_code
def yX1_hasRoomFor : MethodName := ⟨RX1, "hasRoomFor", "(I)Z"⟩
abbrev cX1_addDeed : ByteArray := prog_1_method_52_code
def yX1_addDeed : MethodName := ⟨RX1, "addDeed", "(III)V"⟩
abbrev cX1_perform : ByteArray := prog_1_method_53_code
def yX1_perform : MethodName := ⟨RX1, "perform", "(I)V"⟩
abbrev cX1_doAgain : ByteArray := prog_1_method_54_code
def yX1_doAgain : MethodName := ⟨RX1, "doAgain", "()V"⟩
abbrev cX1_doByLot : ByteArray := prog_1_method_55_code
def yX1_doByLot : MethodName := ⟨RX1, "doByLot", "(I)V"⟩
abbrev cX1_comesBack : ByteArray := prog_1_method_56_code
def yX1_comesBack : MethodName := ⟨RX1, "comesBack", "(II)I"⟩
abbrev cX1_isHeard : ByteArray := prog_1_method_57_code
def yX1_isHeard : MethodName := ⟨RX1, "isHeard", "(II)Z"⟩
abbrev cX1_kindsHeard : ByteArray := prog_1_method_58_code
def yX1_kindsHeard : MethodName := ⟨RX1, "kindsHeard", "(II)I"⟩
abbrev cX1_lookAhead : ByteArray := prog_1_method_59_code
def yX1_lookAhead : MethodName := ⟨RX1, "lookAhead", "(I)V"⟩
abbrev cX1_greatestPart : ByteArray := prog_1_method_60_code
def yX1_greatestPart : MethodName := ⟨RX1, "greatestPart", "(II)I"⟩
abbrev cX1_playOut : ByteArray := prog_1_method_61_code
def yX1_playOut : MethodName := ⟨RX1, "playOut", "(III)I"⟩
abbrev cX1_leftWithEnds : ByteArray := prog_1_method_62_code
def yX1_leftWithEnds : MethodName := ⟨RX1, "leftWithEnds", "(I)I"⟩
abbrev cX1_tellChance : ByteArray := prog_1_method_63_code
def yX1_tellChance : MethodName := ⟨RX1, "tellChance", "(III)V"⟩
abbrev cX1_weightOf : ByteArray := prog_1_method_64_code
def yX1_weightOf : MethodName := ⟨RX1, "weightOf", "(II)J"⟩
abbrev cX1_leftWithout : ByteArray := prog_1_method_65_code
def yX1_leftWithout : MethodName := ⟨RX1, "leftWithout", "(II)I"⟩
abbrev cX1_tellLowest : ByteArray := prog_1_method_66_code
def yX1_tellLowest : MethodName := ⟨RX1, "tellLowest", "(JJ)V"⟩
abbrev cX1_countOf : ByteArray := prog_1_method_67_code
def yX1_countOf : MethodName := ⟨RX1, "countOf", "(I)I"⟩
abbrev cX1_present : ByteArray := prog_1_method_68_code
def yX1_present : MethodName := ⟨RX1, "present", "([I)I"⟩
def RX2 : String := "TubeWordsModel"
def TX2 : u_T := fun k => match k with
  | 0 => ("TubeWordsModel", "rowSize", "[I", true)
  | 1 => ("TubeWordsModel", "rows", "[I", true)
  | 2 => ("TubeWordsModel", "textSize", "[I", true)
  | 3 => ("TubeWordsModel", "texts", "[I", true)
  | 4 => ("TubeWordsModel", "tubes", "I", false)
  | 5 => ("TubeWordsModel", "kind", "[I", true)
  | 6 => ("TubeWordsModel", "size", "[I", true)
  | 7 => ("TubeWordsModel", "mark", "[I", true)
  | 8 => ("TubeWordsModel", "st", "[I", true)
  | 9 => ("TubeWordsModel", "now", "[I", true)
  | 10 => ("TubeWordsModel", "book", "[I", true)
  | 11 => ("TubeWordsModel", "deeds", "I", false)
  | 12 => ("TubeWordsModel", "kept", "[I", true)
  | 13 => ("TubeWordsModel", "isKept", "[Z", true)
  | 14 => ("TubeWordsModel", "asked", "I", false)
  | 15 => ("TubeWordsModel", "upper", "J", false)
  | 16 => ("TubeWordsModel", "lower", "J", false)
  | 17 => ("TubeWordsModel", "finding", "I", false)
  | 18 => ("TubeWordsModel", "findings", "[I", true)
  | 19 => ("TubeWordsModel", "readMany", "I", false)
  | 20 => ("TubeWordsModel", "readKind", "[I", true)
  | 21 => ("TubeWordsModel", "readSize", "[I", true)
  | 22 => ("TubeWordsModel", "readMark", "[I", true)
  | 23 => ("TubeWordsModel", "then", "[I", true)
  | 24 => ("TubeWordsModel", "looks", "[I", true)
  | _ => ("TubeWordsModel", "worth", "[I", true)
def tyX2 : Nat → FieldType := fun k => match k with
  | 0 => .array .int
  | 1 => .array .int
  | 2 => .array .int
  | 3 => .array .int
  | 4 => .int
  | 5 => .array .int
  | 6 => .array .int
  | 7 => .array .int
  | 8 => .array .int
  | 9 => .array .int
  | 10 => .array .int
  | 11 => .int
  | 12 => .array .int
  | 13 => .array .boolean
  | 14 => .int
  | 15 => .long
  | 16 => .long
  | 17 => .int
  | 18 => .array .int
  | 19 => .int
  | 20 => .array .int
  | 21 => .array .int
  | 22 => .array .int
  | 23 => .array .int
  | 24 => .array .int
  | _ => .array .int
abbrev wsX20 : List Cond := u_ws RX2 TX2 26
theorem nmX2 : ∀ a, a < 26 → ∀ b, b < 26 → a ≠ b → (TX2 a).2.1 ≠ (TX2 b).2.1 := by decide +kernel
theorem tyX2_ok : ∀ k, k < 26 → parseFieldDescriptor (TX2 k).2.2.1 = some (tyX2 k) := by decide +kernel
abbrev cX2_init : ByteArray := prog_4_method_1_code
def yX2_init : MethodName := ⟨RX2, "<init>", "()V"⟩
abbrev cX2_in : ByteArray := prog_4_method_3_code
def yX2_in : MethodName := ⟨RX2, "in", "(III)Z"⟩
abbrev cX2_bits : ByteArray := prog_4_method_4_code
def yX2_bits : MethodName := ⟨RX2, "bits", "(I)I"⟩
abbrev cX2_bring : ByteArray := prog_4_method_5_code
def yX2_bring : MethodName := ⟨RX2, "bring", "([II[III)V"⟩
abbrev cX2_found : ByteArray := prog_4_method_6_code
def yX2_found : MethodName := ⟨RX2, "found", "(I)I"⟩
abbrev cX2_tells : ByteArray := prog_4_method_7_code
def yX2_tells : MethodName := ⟨RX2, "tells", "(II)I"⟩
abbrev cX2_isTube : ByteArray := prog_4_method_8_code
def yX2_isTube : MethodName := ⟨RX2, "isTube", "(I)Z"⟩
abbrev cX2_isRow : ByteArray := prog_4_method_9_code
def yX2_isRow : MethodName := ⟨RX2, "isRow", "(I)Z"⟩
abbrev cX2_isText : ByteArray := prog_4_method_10_code
def yX2_isText : MethodName := ⟨RX2, "isText", "(I)Z"⟩
abbrev cX2_makesRow : ByteArray := prog_4_method_11_code
def yX2_makesRow : MethodName := ⟨RX2, "makesRow", "(II)V"⟩
abbrev cX2_row : ByteArray := prog_4_method_12_code
def yX2_row : MethodName := ⟨RX2, "row", "(II)I"⟩
abbrev cX2_placeOf : ByteArray := prog_4_method_13_code
def yX2_placeOf : MethodName := ⟨RX2, "placeOf", "(II)I"⟩
abbrev cX2_lay : ByteArray := prog_4_method_14_code
def yX2_lay : MethodName := ⟨RX2, "lay", "(III)I"⟩
abbrev cX2_at : ByteArray := prog_4_method_15_code
def yX2_at : MethodName := ⟨RX2, "at", "(II)I"⟩
abbrev cX2_tear : ByteArray := prog_4_method_16_code
def yX2_tear : MethodName := ⟨RX2, "tear", "(I)I"⟩
abbrev cX2_copy : ByteArray := prog_4_method_17_code
def yX2_copy : MethodName := ⟨RX2, "copy", "(IIIII)I"⟩
abbrev cX2_mean : ByteArray := prog_4_method_18_code
def yX2_mean : MethodName := ⟨RX2, "mean", "(I)I"⟩
abbrev cX2_text : ByteArray := prog_4_method_19_code
def yX2_text : MethodName := ⟨RX2, "text", "(II)I"⟩
abbrev cX2_put : ByteArray := prog_4_method_20_code
def yX2_put : MethodName := ⟨RX2, "put", "(III)I"⟩
abbrev cX2_kindBy : ByteArray := prog_4_method_21_code
def yX2_kindBy : MethodName := ⟨RX2, "kindBy", "(I)I"⟩
abbrev cX2_reading : ByteArray := prog_4_method_22_code
def yX2_reading : MethodName := ⟨RX2, "reading", "(I)I"⟩
abbrev cX2_fault : ByteArray := prog_4_method_23_code
def yX2_fault : MethodName := ⟨RX2, "fault", "(I)I"⟩
abbrev cX2_store : ByteArray := prog_4_method_24_code
def yX2_store : MethodName := ⟨RX2, "store", "(I)I"⟩
abbrev cX2_isReady : ByteArray := prog_4_method_25_code
def yX2_isReady : MethodName := ⟨RX2, "isReady", "([II)Z"⟩
abbrev cX2_isMarked : ByteArray := prog_4_method_26_code
def yX2_isMarked : MethodName := ⟨RX2, "isMarked", "([II)Z"⟩
abbrev cX2_sentBy : ByteArray := prog_4_method_27_code
def yX2_sentBy : MethodName := ⟨RX2, "sentBy", "([IIII)I"⟩
abbrev cX2_outOf : ByteArray := prog_4_method_28_code
def yX2_outOf : MethodName := ⟨RX2, "outOf", "([II)I"⟩
abbrev cX2_fromWhich : ByteArray := prog_4_method_29_code
def yX2_fromWhich : MethodName := ⟨RX2, "fromWhich", "([II)I"⟩
abbrev cX2_tickOn : ByteArray := prog_4_method_30_code
def yX2_tickOn : MethodName := ⟨RX2, "tickOn", "([I)V"⟩
abbrev cX2_pulses : ByteArray := prog_4_method_31_code
def yX2_pulses : MethodName := ⟨RX2, "pulses", "([I)I"⟩
abbrev cX2_tube : ByteArray := prog_4_method_32_code
def yX2_tube : MethodName := ⟨RX2, "tube", "(II)I"⟩
abbrev cX2_sentNow : ByteArray := prog_4_method_33_code
def yX2_sentNow : MethodName := ⟨RX2, "sentNow", "(II)I"⟩
abbrev cX2_isA : ByteArray := prog_4_method_34_code
def yX2_isA : MethodName := ⟨RX2, "isA", "(II)Z"⟩
abbrev cX2_mark : ByteArray := prog_4_method_35_code
def yX2_mark : MethodName := ⟨RX2, "mark", "(II)I"⟩
abbrev cX2_notes : ByteArray := prog_4_method_36_code
def yX2_notes : MethodName := ⟨RX2, "notes", "()V"⟩
abbrev cX2_tick : ByteArray := prog_4_method_37_code
def yX2_tick : MethodName := ⟨RX2, "tick", "()I"⟩
abbrev cX2_set : ByteArray := prog_4_method_38_code
def yX2_set : MethodName := ⟨RX2, "set", "(II)I"⟩
abbrev cX2_swapped : ByteArray := prog_4_method_39_code
def yX2_swapped : MethodName := ⟨RX2, "swapped", "([III)V"⟩
abbrev cX2_swap : ByteArray := prog_4_method_40_code
def yX2_swap : MethodName := ⟨RX2, "swap", "(II)I"⟩
abbrev cX2_isWord : ByteArray := prog_4_method_41_code
def yX2_isWord : MethodName := ⟨RX2, "isWord", "(II)Z"⟩
abbrev cX2_word : ByteArray := prog_4_method_42_code
def yX2_word : MethodName := ⟨RX2, "word", "(II)I"⟩
abbrev cX2_undo : ByteArray := prog_4_method_43_code
def yX2_undo : MethodName := ⟨RX2, "undo", "(I)I"⟩
abbrev cX2_keep : ByteArray := prog_4_method_44_code
def yX2_keep : MethodName := ⟨RX2, "keep", "(I)I"⟩
abbrev cX2_on : ByteArray := prog_4_method_45_code
def yX2_on : MethodName := ⟨RX2, "on", "(I)I"⟩
abbrev cX2_asItIs : ByteArray := prog_4_method_46_code
def yX2_asItIs : MethodName := ⟨RX2, "asItIs", "()V"⟩
abbrev cX2_goes : ByteArray := prog_4_method_47_code
def yX2_goes : MethodName := ⟨RX2, "goes", "(I)V"⟩
abbrev cX2_later : ByteArray := prog_4_method_48_code
def yX2_later : MethodName := ⟨RX2, "later", "(II)I"⟩
abbrev cX2_hears : ByteArray := prog_4_method_49_code
def yX2_hears : MethodName := ⟨RX2, "hears", "(III)I"⟩
abbrev cX2_finds : ByteArray := prog_4_method_50_code
def yX2_finds : MethodName := ⟨RX2, "finds", "(III)I"⟩
abbrev cX2_round : ByteArray := prog_4_method_51_code
def yX2_round : MethodName := ⟨RX2, "round", "()I"⟩
abbrev cX2_left : ByteArray := prog_4_method_52_code
def yX2_left : MethodName := ⟨RX2, "left", "(I)I"⟩
abbrev cX2_best : ByteArray := prog_4_method_53_code
def yX2_best : MethodName := ⟨RX2, "best", "(I)I"⟩
abbrev cX2_againBy : ByteArray := prog_4_method_54_code
def yX2_againBy : MethodName := ⟨RX2, "againBy", "(II)I"⟩
abbrev cX2_safest : ByteArray := prog_4_method_55_code
def yX2_safest : MethodName := ⟨RX2, "safest", "(I)I"⟩
abbrev cX2_heardOf : ByteArray := prog_4_method_56_code
def yX2_heardOf : MethodName := ⟨RX2, "heardOf", "(I)I"⟩
abbrev cX2_isHeard : ByteArray := prog_4_method_57_code
def yX2_isHeard : MethodName := ⟨RX2, "isHeard", "(II)Z"⟩
abbrev cX2_kindsOf : ByteArray := prog_4_method_58_code
def yX2_kindsOf : MethodName := ⟨RX2, "kindsOf", "(II)I"⟩
abbrev cX2_kinds : ByteArray := prog_4_method_59_code
def yX2_kinds : MethodName := ⟨RX2, "kinds", "(II)I"⟩
abbrev cX2_words : ByteArray := prog_4_method_60_code
def yX2_words : MethodName := ⟨RX2, "words", "(II)I"⟩
abbrev cX2_greatest : ByteArray := prog_4_method_61_code
def yX2_greatest : MethodName := ⟨RX2, "greatest", "(III)I"⟩
abbrev cX2_test : ByteArray := prog_4_method_62_code
def yX2_test : MethodName := ⟨RX2, "test", "(II)I"⟩
abbrev cX2_worthOf : ByteArray := prog_4_method_63_code
def yX2_worthOf : MethodName := ⟨RX2, "worthOf", "(II)I"⟩
abbrev cX2_duel : ByteArray := prog_4_method_64_code
def yX2_duel : MethodName := ⟨RX2, "duel", "(I)I"⟩
abbrev cX2_common : ByteArray := prog_4_method_65_code
def yX2_common : MethodName := ⟨RX2, "common", "(JJ)J"⟩
abbrev cX2_tellsPart : ByteArray := prog_4_method_66_code
def yX2_tellsPart : MethodName := ⟨RX2, "tellsPart", "(JJ)I"⟩
abbrev cX2_failing : ByteArray := prog_4_method_67_code
def yX2_failing : MethodName := ⟨RX2, "failing", "(III)I"⟩
abbrev cX2_odds : ByteArray := prog_4_method_68_code
def yX2_odds : MethodName := ⟨RX2, "odds", "(III)I"⟩
abbrev cX2_mid : ByteArray := prog_4_method_69_code
def yX2_mid : MethodName := ⟨RX2, "mid", "(II)I"⟩
abbrev cX2_lot : ByteArray := prog_4_method_70_code
def yX2_lot : MethodName := ⟨RX2, "lot", "(I)V"⟩
abbrev cX2_lots : ByteArray := prog_4_method_71_code
def yX2_lots : MethodName := ⟨RX2, "lots", "(II)I"⟩
abbrev cX2_asked : ByteArray := prog_4_method_72_code
def yX2_asked : MethodName := ⟨RX2, "asked", "()I"⟩
abbrev cX2_upper : ByteArray := prog_4_method_73_code
def yX2_upper : MethodName := ⟨RX2, "upper", "()J"⟩
abbrev cX2_lower : ByteArray := prog_4_method_74_code
def yX2_lower : MethodName := ⟨RX2, "lower", "()J"⟩
abbrev cX2_slots : ByteArray := prog_4_method_75_code
def yX2_slots : MethodName := ⟨RX2, "slots", "()I"⟩
abbrev cX2_empties : ByteArray := prog_4_method_76_code
def yX2_empties : MethodName := ⟨RX2, "empties", "()I"⟩
abbrev cX2_there : ByteArray := prog_4_method_77_code
def yX2_there : MethodName := ⟨RX2, "there", "([I)I"⟩
abbrev cX2_keptMany : ByteArray := prog_4_method_78_code
def yX2_keptMany : MethodName := ⟨RX2, "keptMany", "()I"⟩
abbrev cX2_those : ByteArray := prog_4_method_79_code
def yX2_those : MethodName := ⟨RX2, "those", "(I)I"⟩
abbrev cX2_count : ByteArray := prog_4_method_80_code
def yX2_count : MethodName := ⟨RX2, "count", "(I)I"⟩
abbrev cX2_finding : ByteArray := prog_4_method_81_code
def yX2_finding : MethodName := ⟨RX2, "finding", "()I"⟩
abbrev cX2_findings : ByteArray := prog_4_method_82_code
def yX2_findings : MethodName := ⟨RX2, "findings", "(I)I"⟩
abbrev cX2_tubeOf : ByteArray := prog_4_method_83_code
def yX2_tubeOf : MethodName := ⟨RX2, "tubeOf", "(II)I"⟩
abbrev cX2_digest : ByteArray := prog_4_method_84_code
def yX2_digest : MethodName := ⟨RX2, "digest", "()J"⟩
def RJ6 : String := "java/lang/Integer"
def TJ6 : u_T := fun k => match k with
  | _ => ("", "", "", false)
def tyJ6 : Nat → FieldType := fun k => match k with
  | _ => .int
abbrev wsJ60 : List Cond := u_ws RJ6 TJ6 0
theorem nmJ6 : ∀ a, a < 0 → ∀ b, b < 0 → a ≠ b → (TJ6 a).2.1 ≠ (TJ6 b).2.1 := by decide +kernel
theorem tyJ6_ok : ∀ k, k < 0 → parseFieldDescriptor (TJ6 k).2.2.1 = some (tyJ6 k) := by decide +kernel
abbrev cJ6_bitCount_0f7a4 : ByteArray := prog_5_method_49_code
def yJ6_bitCount_0f7a4 : MethodName := ⟨RJ6, "bitCount", "(I)I"⟩
def RJ9 : String := "java/lang/Math"
def TJ9 : u_T := fun k => match k with
  | _ => ("", "", "", false)
def tyJ9 : Nat → FieldType := fun k => match k with
  | _ => .int
abbrev wsJ90 : List Cond := u_ws RJ9 TJ9 0
theorem nmJ9 : ∀ a, a < 0 → ∀ b, b < 0 → a ≠ b → (TJ9 a).2.1 ≠ (TJ9 b).2.1 := by decide +kernel
theorem tyJ9_ok : ∀ k, k < 0 → parseFieldDescriptor (TJ9 k).2.2.1 = some (tyJ9 k) := by decide +kernel
abbrev cJ9_max_7cf53 : ByteArray := prog_6_method_65_code
def yJ9_max_7cf53 : MethodName := ⟨RJ9, "max", "(II)I"⟩
abbrev cJ9_min_7cf53 : ByteArray := prog_6_method_69_code
def yJ9_min_7cf53 : MethodName := ⟨RJ9, "min", "(II)I"⟩
def RJ10 : String := "java/lang/System"
def TJ10 : u_T := fun k => match k with
  | _ => ("", "", "", false)
def tyJ10 : Nat → FieldType := fun k => match k with
  | _ => .int
abbrev wsJ100 : List Cond := u_ws RJ10 TJ10 0
theorem nmJ10 : ∀ a, a < 0 → ∀ b, b < 0 → a ≠ b → (TJ10 a).2.1 ≠ (TJ10 b).2.1 := by decide +kernel
theorem tyJ10_ok : ∀ k, k < 0 → parseFieldDescriptor (TJ10 k).2.2.1 = some (tyJ10 k) := by decide +kernel
def RL : String := "TubeWordsLaw"
abbrev cL_law : ByteArray := code
def yL_law : MethodName := ⟨RL, "law", "([I)Z"⟩
abbrev vwCl : List vw_C := [(RX0, TX0, 8), (RX1, TX1, 16), (RX2, TX2, 26)]
end
section
theorem dX0_init_0 : decode cX0_init 0 = .ok (.aload_n 0, 1) := by decide +kernel
theorem dX0_init_1 : decode cX0_init 1 = .ok (.invokespecial 3, 3) := by decide +kernel
theorem dX0_init_4 : decode cX0_init 4 = .ok (.aload_n 0, 1) := by decide +kernel
theorem dX0_init_5 : decode cX0_init 5 = .ok (.bipush 7, 2) := by decide +kernel
theorem dX0_init_7 : decode cX0_init 7 = .ok (.newarray .int, 2) := by decide +kernel
theorem dX0_init_9 : decode cX0_init 9 = .ok (.putfield 9, 3) := by decide +kernel
theorem dX0_init_12 : decode cX0_init 12 = .ok (.aload_n 0, 1) := by decide +kernel
theorem dX0_init_13 : decode cX0_init 13 = .ok (.bipush 7, 2) := by decide +kernel
theorem dX0_init_15 : decode cX0_init 15 = .ok (.newarray .int, 2) := by decide +kernel
theorem dX0_init_17 : decode cX0_init 17 = .ok (.putfield 15, 3) := by decide +kernel
theorem dX0_init_20 : decode cX0_init 20 = .ok (.aload_n 0, 1) := by decide +kernel
theorem dX0_init_21 : decode cX0_init 21 = .ok (.bipush 7, 2) := by decide +kernel
theorem dX0_init_23 : decode cX0_init 23 = .ok (.newarray .int, 2) := by decide +kernel
theorem dX0_init_25 : decode cX0_init 25 = .ok (.putfield 18, 3) := by decide +kernel
theorem dX0_init_28 : decode cX0_init 28 = .ok (.aload_n 0, 1) := by decide +kernel
theorem dX0_init_29 : decode cX0_init 29 = .ok (.bipush 7, 2) := by decide +kernel
theorem dX0_init_31 : decode cX0_init 31 = .ok (.newarray .int, 2) := by decide +kernel
theorem dX0_init_33 : decode cX0_init 33 = .ok (.putfield 21, 3) := by decide +kernel
theorem dX0_init_36 : decode cX0_init 36 = .ok (.aload_n 0, 1) := by decide +kernel
theorem dX0_init_37 : decode cX0_init 37 = .ok (.bipush 7, 2) := by decide +kernel
theorem dX0_init_39 : decode cX0_init 39 = .ok (.newarray .int, 2) := by decide +kernel
theorem dX0_init_41 : decode cX0_init 41 = .ok (.putfield 24, 3) := by decide +kernel
theorem dX0_init_44 : decode cX0_init 44 = .ok (.aload_n 0, 1) := by decide +kernel
theorem dX0_init_45 : decode cX0_init 45 = .ok (.bipush 7, 2) := by decide +kernel
theorem dX0_init_47 : decode cX0_init 47 = .ok (.newarray .int, 2) := by decide +kernel
theorem dX0_init_49 : decode cX0_init 49 = .ok (.putfield 27, 3) := by decide +kernel
theorem dX0_init_52 : decode cX0_init 52 = .ok (.aload_n 0, 1) := by decide +kernel
theorem dX0_init_53 : decode cX0_init 53 = .ok (.iconst 0, 1) := by decide +kernel
theorem dX0_init_54 : decode cX0_init 54 = .ok (.putfield 30, 3) := by decide +kernel
theorem dX0_init_57 : decode cX0_init 57 = .ok (.aload_n 0, 1) := by decide +kernel
theorem dX0_init_58 : decode cX0_init 58 = .ok (.iconst 0, 1) := by decide +kernel
theorem dX0_init_59 : decode cX0_init 59 = .ok (.putfield 34, 3) := by decide +kernel
theorem dX0_init_62 : decode cX0_init 62 = .ok (.return_, 1) := by decide +kernel
theorem dX0_has_0 : decode cX0_has 0 = .ok (.iload_n 1, 1) := by decide +kernel
theorem dX0_has_1 : decode cX0_has 1 = .ok (.ifCond .lt 15, 3) := by decide +kernel
theorem dX0_has_4 : decode cX0_has 4 = .ok (.iload_n 1, 1) := by decide +kernel
theorem dX0_has_5 : decode cX0_has 5 = .ok (.aload_n 0, 1) := by decide +kernel
theorem dX0_has_6 : decode cX0_has 6 = .ok (.getfield 30, 3) := by decide +kernel
theorem dX0_has_9 : decode cX0_has 9 = .ok (.if_icmp .ge 7, 3) := by decide +kernel
theorem dX0_has_12 : decode cX0_has 12 = .ok (.iconst 1, 1) := by decide +kernel
theorem dX0_has_13 : decode cX0_has 13 = .ok (.goto 4, 3) := by decide +kernel
theorem dX0_has_16 : decode cX0_has 16 = .ok (.iconst 0, 1) := by decide +kernel
theorem dX0_has_17 : decode cX0_has 17 = .ok (.ireturn, 1) := by decide +kernel
theorem dX0_canHave_0 : decode cX0_canHave 0 = .ok (.iload_n 2, 1) := by decide +kernel
theorem dX0_canHave_1 : decode cX0_canHave 1 = .ok (.ifCond .lt 19, 3) := by decide +kernel
theorem dX0_canHave_4 : decode cX0_canHave 4 = .ok (.iload_n 2, 1) := by decide +kernel
theorem dX0_canHave_5 : decode cX0_canHave 5 = .ok (.iconst 1, 1) := by decide +kernel
theorem dX0_canHave_6 : decode cX0_canHave 6 = .ok (.aload_n 0, 1) := by decide +kernel
theorem dX0_canHave_7 : decode cX0_canHave 7 = .ok (.getfield 15, 3) := by decide +kernel
theorem dX0_canHave_10 : decode cX0_canHave 10 = .ok (.iload_n 1, 1) := by decide +kernel
theorem dX0_canHave_11 : decode cX0_canHave 11 = .ok (.iaload, 1) := by decide +kernel
theorem dX0_canHave_12 : decode cX0_canHave 12 = .ok (.ishl, 1) := by decide +kernel
theorem dX0_canHave_13 : decode cX0_canHave 13 = .ok (.if_icmp .ge 7, 3) := by decide +kernel
theorem dX0_canHave_16 : decode cX0_canHave 16 = .ok (.iconst 1, 1) := by decide +kernel
theorem dX0_canHave_17 : decode cX0_canHave 17 = .ok (.goto 4, 3) := by decide +kernel
theorem dX0_canHave_20 : decode cX0_canHave 20 = .ok (.iconst 0, 1) := by decide +kernel
theorem dX0_canHave_21 : decode cX0_canHave 21 = .ok (.ireturn, 1) := by decide +kernel
theorem dX0_read_0 : decode cX0_read 0 = .ok (.aload_n 0, 1) := by decide +kernel
theorem dX0_read_1 : decode cX0_read 1 = .ok (.iconst 0, 1) := by decide +kernel
theorem dX0_read_2 : decode cX0_read 2 = .ok (.putfield 30, 3) := by decide +kernel
theorem dX0_read_5 : decode cX0_read 5 = .ok (.iconst 0, 1) := by decide +kernel
theorem dX0_read_6 : decode cX0_read 6 = .ok (.istore_n 3, 1) := by decide +kernel
theorem dX0_read_7 : decode cX0_read 7 = .ok (.iconst 0, 1) := by decide +kernel
theorem dX0_read_8 : decode cX0_read 8 = .ok (.istore 4, 2) := by decide +kernel
theorem dX0_read_10 : decode cX0_read 10 = .ok (.iload 4, 2) := by decide +kernel
theorem dX0_read_12 : decode cX0_read 12 = .ok (.iload_n 2, 1) := by decide +kernel
theorem dX0_read_13 : decode cX0_read 13 = .ok (.if_icmp .ge 86, 3) := by decide +kernel
theorem dX0_read_16 : decode cX0_read 16 = .ok (.iload 4, 2) := by decide +kernel
theorem dX0_read_18 : decode cX0_read 18 = .ok (.aload_n 1, 1) := by decide +kernel
theorem dX0_read_19 : decode cX0_read 19 = .ok (.arraylength, 1) := by decide +kernel
theorem dX0_read_20 : decode cX0_read 20 = .ok (.if_icmp .ge 79, 3) := by decide +kernel
theorem dX0_read_23 : decode cX0_read 23 = .ok (.aload_n 1, 1) := by decide +kernel
theorem dX0_read_24 : decode cX0_read 24 = .ok (.iload 4, 2) := by decide +kernel
theorem dX0_read_26 : decode cX0_read 26 = .ok (.baload, 1) := by decide +kernel
theorem dX0_read_27 : decode cX0_read 27 = .ok (.istore 5, 2) := by decide +kernel
theorem dX0_read_29 : decode cX0_read 29 = .ok (.iload_n 3, 1) := by decide +kernel
theorem dX0_read_30 : decode cX0_read 30 = .ok (.ifCond .ne 13, 3) := by decide +kernel
theorem dX0_read_33 : decode cX0_read 33 = .ok (.iload 5, 2) := by decide +kernel
theorem dX0_read_35 : decode cX0_read 35 = .ok (.bipush 32, 2) := by decide +kernel
theorem dX0_read_37 : decode cX0_read 37 = .ok (.if_icmp .ne 6, 3) := by decide +kernel
theorem dX0_read_40 : decode cX0_read 40 = .ok (.goto 53, 3) := by decide +kernel
theorem dX0_read_43 : decode cX0_read 43 = .ok (.aload_n 0, 1) := by decide +kernel
theorem dX0_read_44 : decode cX0_read 44 = .ok (.getfield 30, 3) := by decide +kernel
theorem dX0_read_47 : decode cX0_read 47 = .ok (.bipush 7, 2) := by decide +kernel
theorem dX0_read_49 : decode cX0_read 49 = .ok (.if_icmp .eq 13, 3) := by decide +kernel
theorem dX0_read_52 : decode cX0_read 52 = .ok (.aload_n 0, 1) := by decide +kernel
theorem dX0_read_53 : decode cX0_read 53 = .ok (.iload 5, 2) := by decide +kernel
theorem dX0_read_55 : decode cX0_read 55 = .ok (.iload_n 3, 1) := by decide +kernel
theorem dX0_read_56 : decode cX0_read 56 = .ok (.invokevirtual 37, 3) := by decide +kernel
theorem dX0_read_59 : decode cX0_read 59 = .ok (.ifCond .ne 6, 3) := by decide +kernel
theorem dX0_read_62 : decode cX0_read 62 = .ok (.iload 4, 2) := by decide +kernel
theorem dX0_read_64 : decode cX0_read 64 = .ok (.ireturn, 1) := by decide +kernel
theorem dX0_read_65 : decode cX0_read 65 = .ok (.iload_n 3, 1) := by decide +kernel
theorem dX0_read_66 : decode cX0_read 66 = .ok (.iconst 2, 1) := by decide +kernel
theorem dX0_read_67 : decode cX0_read 67 = .ok (.if_icmp .ne 13, 3) := by decide +kernel
theorem dX0_read_70 : decode cX0_read 70 = .ok (.aload_n 0, 1) := by decide +kernel
theorem dX0_read_71 : decode cX0_read 71 = .ok (.dup, 1) := by decide +kernel
theorem dX0_read_72 : decode cX0_read 72 = .ok (.getfield 30, 3) := by decide +kernel
theorem dX0_read_75 : decode cX0_read 75 = .ok (.iconst 1, 1) := by decide +kernel
theorem dX0_read_76 : decode cX0_read 76 = .ok (.iadd, 1) := by decide +kernel
theorem dX0_read_77 : decode cX0_read 77 = .ok (.putfield 30, 3) := by decide +kernel
theorem dX0_read_80 : decode cX0_read 80 = .ok (.iload_n 3, 1) := by decide +kernel
theorem dX0_read_81 : decode cX0_read 81 = .ok (.iconst 2, 1) := by decide +kernel
theorem dX0_read_82 : decode cX0_read 82 = .ok (.if_icmp .ne 7, 3) := by decide +kernel
theorem dX0_read_85 : decode cX0_read 85 = .ok (.iconst 0, 1) := by decide +kernel
theorem dX0_read_86 : decode cX0_read 86 = .ok (.goto 6, 3) := by decide +kernel
theorem dX0_read_89 : decode cX0_read 89 = .ok (.iload_n 3, 1) := by decide +kernel
theorem dX0_read_90 : decode cX0_read 90 = .ok (.iconst 1, 1) := by decide +kernel
theorem dX0_read_91 : decode cX0_read 91 = .ok (.iadd, 1) := by decide +kernel
theorem dX0_read_92 : decode cX0_read 92 = .ok (.istore_n 3, 1) := by decide +kernel
theorem dX0_read_93 : decode cX0_read 93 = .ok (.iinc 4 1, 3) := by decide +kernel
theorem dX0_read_96 : decode cX0_read 96 = .ok (.goto (-86), 3) := by decide +kernel
theorem dX0_read_99 : decode cX0_read 99 = .ok (.iload_n 3, 1) := by decide +kernel
theorem dX0_read_100 : decode cX0_read 100 = .ok (.ifCond .ne 16, 3) := by decide +kernel
theorem dX0_read_103 : decode cX0_read 103 = .ok (.aload_n 0, 1) := by decide +kernel
theorem dX0_read_104 : decode cX0_read 104 = .ok (.getfield 30, 3) := by decide +kernel
theorem dX0_read_107 : decode cX0_read 107 = .ok (.iconst 2, 1) := by decide +kernel
theorem dX0_read_108 : decode cX0_read 108 = .ok (.if_icmp .lt 8, 3) := by decide +kernel
theorem dX0_read_111 : decode cX0_read 111 = .ok (.bipush (-9), 2) := by decide +kernel
theorem dX0_read_113 : decode cX0_read 113 = .ok (.goto 4, 3) := by decide +kernel
theorem dX0_read_116 : decode cX0_read 116 = .ok (.iload_n 2, 1) := by decide +kernel
theorem dX0_read_117 : decode cX0_read 117 = .ok (.ireturn, 1) := by decide +kernel
theorem dX0_takeSign_0 : decode cX0_takeSign 0 = .ok (.iload_n 2, 1) := by decide +kernel
theorem dX0_takeSign_1 : decode cX0_takeSign 1 = .ok (.ifCond .ne 29, 3) := by decide +kernel
theorem dX0_takeSign_4 : decode cX0_takeSign 4 = .ok (.iload_n 1, 1) := by decide +kernel
theorem dX0_takeSign_5 : decode cX0_takeSign 5 = .ok (.invokestatic 41, 3) := by decide +kernel
theorem dX0_takeSign_8 : decode cX0_takeSign 8 = .ok (.istore_n 3, 1) := by decide +kernel
theorem dX0_takeSign_9 : decode cX0_takeSign 9 = .ok (.aload_n 0, 1) := by decide +kernel
theorem dX0_takeSign_10 : decode cX0_takeSign 10 = .ok (.getfield 9, 3) := by decide +kernel
theorem dX0_takeSign_13 : decode cX0_takeSign 13 = .ok (.aload_n 0, 1) := by decide +kernel
theorem dX0_takeSign_14 : decode cX0_takeSign 14 = .ok (.getfield 30, 3) := by decide +kernel
theorem dX0_takeSign_17 : decode cX0_takeSign 17 = .ok (.iload_n 3, 1) := by decide +kernel
theorem dX0_takeSign_18 : decode cX0_takeSign 18 = .ok (.iastore, 1) := by decide +kernel
theorem dX0_takeSign_19 : decode cX0_takeSign 19 = .ok (.iload_n 3, 1) := by decide +kernel
theorem dX0_takeSign_20 : decode cX0_takeSign 20 = .ok (.iconst (-1), 1) := by decide +kernel
theorem dX0_takeSign_21 : decode cX0_takeSign 21 = .ok (.if_icmp .eq 7, 3) := by decide +kernel
theorem dX0_takeSign_24 : decode cX0_takeSign 24 = .ok (.iconst 1, 1) := by decide +kernel
theorem dX0_takeSign_25 : decode cX0_takeSign 25 = .ok (.goto 4, 3) := by decide +kernel
theorem dX0_takeSign_28 : decode cX0_takeSign 28 = .ok (.iconst 0, 1) := by decide +kernel
theorem dX0_takeSign_29 : decode cX0_takeSign 29 = .ok (.ireturn, 1) := by decide +kernel
theorem dX0_takeSign_30 : decode cX0_takeSign 30 = .ok (.iload_n 2, 1) := by decide +kernel
theorem dX0_takeSign_31 : decode cX0_takeSign 31 = .ok (.iconst 1, 1) := by decide +kernel
theorem dX0_takeSign_32 : decode cX0_takeSign 32 = .ok (.if_icmp .ne 8, 3) := by decide +kernel
theorem dX0_takeSign_35 : decode cX0_takeSign 35 = .ok (.bipush 50, 2) := by decide +kernel
theorem dX0_takeSign_37 : decode cX0_takeSign 37 = .ok (.goto 5, 3) := by decide +kernel
theorem dX0_takeSign_40 : decode cX0_takeSign 40 = .ok (.bipush 48, 2) := by decide +kernel
theorem dX0_takeSign_42 : decode cX0_takeSign 42 = .ok (.istore_n 3, 1) := by decide +kernel
theorem dX0_takeSign_43 : decode cX0_takeSign 43 = .ok (.iload_n 2, 1) := by decide +kernel
theorem dX0_takeSign_44 : decode cX0_takeSign 44 = .ok (.iconst 1, 1) := by decide +kernel
theorem dX0_takeSign_45 : decode cX0_takeSign 45 = .ok (.if_icmp .ne 19, 3) := by decide +kernel
theorem dX0_takeSign_48 : decode cX0_takeSign 48 = .ok (.aload_n 0, 1) := by decide +kernel
theorem dX0_takeSign_49 : decode cX0_takeSign 49 = .ok (.getfield 15, 3) := by decide +kernel
theorem dX0_takeSign_52 : decode cX0_takeSign 52 = .ok (.aload_n 0, 1) := by decide +kernel
theorem dX0_takeSign_53 : decode cX0_takeSign 53 = .ok (.getfield 30, 3) := by decide +kernel
theorem dX0_takeSign_56 : decode cX0_takeSign 56 = .ok (.iload_n 1, 1) := by decide +kernel
theorem dX0_takeSign_57 : decode cX0_takeSign 57 = .ok (.bipush 48, 2) := by decide +kernel
theorem dX0_takeSign_59 : decode cX0_takeSign 59 = .ok (.isub, 1) := by decide +kernel
theorem dX0_takeSign_60 : decode cX0_takeSign 60 = .ok (.iastore, 1) := by decide +kernel
theorem dX0_takeSign_61 : decode cX0_takeSign 61 = .ok (.goto 16, 3) := by decide +kernel
theorem dX0_takeSign_64 : decode cX0_takeSign 64 = .ok (.aload_n 0, 1) := by decide +kernel
theorem dX0_takeSign_65 : decode cX0_takeSign 65 = .ok (.getfield 18, 3) := by decide +kernel
theorem dX0_takeSign_68 : decode cX0_takeSign 68 = .ok (.aload_n 0, 1) := by decide +kernel
theorem dX0_takeSign_69 : decode cX0_takeSign 69 = .ok (.getfield 30, 3) := by decide +kernel
theorem dX0_takeSign_72 : decode cX0_takeSign 72 = .ok (.iload_n 1, 1) := by decide +kernel
theorem dX0_takeSign_73 : decode cX0_takeSign 73 = .ok (.bipush 48, 2) := by decide +kernel
theorem dX0_takeSign_75 : decode cX0_takeSign 75 = .ok (.isub, 1) := by decide +kernel
theorem dX0_takeSign_76 : decode cX0_takeSign 76 = .ok (.iastore, 1) := by decide +kernel
theorem dX0_takeSign_77 : decode cX0_takeSign 77 = .ok (.iload_n 1, 1) := by decide +kernel
theorem dX0_takeSign_78 : decode cX0_takeSign 78 = .ok (.iload_n 3, 1) := by decide +kernel
theorem dX0_takeSign_79 : decode cX0_takeSign 79 = .ok (.if_icmp .lt 13, 3) := by decide +kernel
theorem dX0_takeSign_82 : decode cX0_takeSign 82 = .ok (.iload_n 1, 1) := by decide +kernel
theorem dX0_takeSign_83 : decode cX0_takeSign 83 = .ok (.bipush 57, 2) := by decide +kernel
theorem dX0_takeSign_85 : decode cX0_takeSign 85 = .ok (.if_icmp .gt 7, 3) := by decide +kernel
theorem dX0_takeSign_88 : decode cX0_takeSign 88 = .ok (.iconst 1, 1) := by decide +kernel
theorem dX0_takeSign_89 : decode cX0_takeSign 89 = .ok (.goto 4, 3) := by decide +kernel
theorem dX0_takeSign_92 : decode cX0_takeSign 92 = .ok (.iconst 0, 1) := by decide +kernel
theorem dX0_takeSign_93 : decode cX0_takeSign 93 = .ok (.ireturn, 1) := by decide +kernel
theorem dX0_kindOf_0 : decode cX0_kindOf 0 = .ok (.iconst 0, 1) := by decide +kernel
theorem dX0_kindOf_1 : decode cX0_kindOf 1 = .ok (.istore_n 1, 1) := by decide +kernel
theorem dX0_kindOf_2 : decode cX0_kindOf 2 = .ok (.iload_n 1, 1) := by decide +kernel
theorem dX0_kindOf_3 : decode cX0_kindOf 3 = .ok (.getstatic 45, 3) := by decide +kernel
theorem dX0_kindOf_6 : decode cX0_kindOf 6 = .ok (.arraylength, 1) := by decide +kernel
theorem dX0_kindOf_7 : decode cX0_kindOf 7 = .ok (.if_icmp .ge 20, 3) := by decide +kernel
theorem dX0_kindOf_10 : decode cX0_kindOf 10 = .ok (.getstatic 45, 3) := by decide +kernel
theorem dX0_kindOf_13 : decode cX0_kindOf 13 = .ok (.iload_n 1, 1) := by decide +kernel
theorem dX0_kindOf_14 : decode cX0_kindOf 14 = .ok (.baload, 1) := by decide +kernel
theorem dX0_kindOf_15 : decode cX0_kindOf 15 = .ok (.iload_n 0, 1) := by decide +kernel
theorem dX0_kindOf_16 : decode cX0_kindOf 16 = .ok (.if_icmp .ne 5, 3) := by decide +kernel
theorem dX0_kindOf_19 : decode cX0_kindOf 19 = .ok (.iload_n 1, 1) := by decide +kernel
theorem dX0_kindOf_20 : decode cX0_kindOf 20 = .ok (.ireturn, 1) := by decide +kernel
theorem dX0_kindOf_21 : decode cX0_kindOf 21 = .ok (.iinc 1 1, 3) := by decide +kernel
theorem dX0_kindOf_24 : decode cX0_kindOf 24 = .ok (.goto (-22), 3) := by decide +kernel
theorem dX0_kindOf_27 : decode cX0_kindOf 27 = .ok (.iconst (-1), 1) := by decide +kernel
theorem dX0_kindOf_28 : decode cX0_kindOf 28 = .ok (.ireturn, 1) := by decide +kernel
theorem dX0_beginAnew_0 : decode cX0_beginAnew 0 = .ok (.iconst 0, 1) := by decide +kernel
theorem dX0_beginAnew_1 : decode cX0_beginAnew 1 = .ok (.istore_n 1, 1) := by decide +kernel
theorem dX0_beginAnew_2 : decode cX0_beginAnew 2 = .ok (.iload_n 1, 1) := by decide +kernel
theorem dX0_beginAnew_3 : decode cX0_beginAnew 3 = .ok (.bipush 7, 2) := by decide +kernel
theorem dX0_beginAnew_5 : decode cX0_beginAnew 5 = .ok (.if_icmp .ge 23, 3) := by decide +kernel
theorem dX0_beginAnew_8 : decode cX0_beginAnew 8 = .ok (.aload_n 0, 1) := by decide +kernel
theorem dX0_beginAnew_9 : decode cX0_beginAnew 9 = .ok (.getfield 21, 3) := by decide +kernel
theorem dX0_beginAnew_12 : decode cX0_beginAnew 12 = .ok (.iload_n 1, 1) := by decide +kernel
theorem dX0_beginAnew_13 : decode cX0_beginAnew 13 = .ok (.iconst 0, 1) := by decide +kernel
theorem dX0_beginAnew_14 : decode cX0_beginAnew 14 = .ok (.iastore, 1) := by decide +kernel
theorem dX0_beginAnew_15 : decode cX0_beginAnew 15 = .ok (.aload_n 0, 1) := by decide +kernel
theorem dX0_beginAnew_16 : decode cX0_beginAnew 16 = .ok (.getfield 24, 3) := by decide +kernel
theorem dX0_beginAnew_19 : decode cX0_beginAnew 19 = .ok (.iload_n 1, 1) := by decide +kernel
theorem dX0_beginAnew_20 : decode cX0_beginAnew 20 = .ok (.iload_n 1, 1) := by decide +kernel
theorem dX0_beginAnew_21 : decode cX0_beginAnew 21 = .ok (.iastore, 1) := by decide +kernel
theorem dX0_beginAnew_22 : decode cX0_beginAnew 22 = .ok (.iinc 1 1, 3) := by decide +kernel
theorem dX0_beginAnew_25 : decode cX0_beginAnew 25 = .ok (.goto (-23), 3) := by decide +kernel
theorem dX0_beginAnew_28 : decode cX0_beginAnew 28 = .ok (.aload_n 0, 1) := by decide +kernel
theorem dX0_beginAnew_29 : decode cX0_beginAnew 29 = .ok (.iconst 0, 1) := by decide +kernel
theorem dX0_beginAnew_30 : decode cX0_beginAnew 30 = .ok (.putfield 34, 3) := by decide +kernel
theorem dX0_beginAnew_33 : decode cX0_beginAnew 33 = .ok (.return_, 1) := by decide +kernel
theorem dX0_takeFrom_0 : decode cX0_takeFrom 0 = .ok (.aload_n 1, 1) := by decide +kernel
theorem dX0_takeFrom_1 : decode cX0_takeFrom 1 = .ok (.getfield 9, 3) := by decide +kernel
theorem dX0_takeFrom_4 : decode cX0_takeFrom 4 = .ok (.iconst 0, 1) := by decide +kernel
theorem dX0_takeFrom_5 : decode cX0_takeFrom 5 = .ok (.aload_n 0, 1) := by decide +kernel
theorem dX0_takeFrom_6 : decode cX0_takeFrom 6 = .ok (.getfield 9, 3) := by decide +kernel
theorem dX0_takeFrom_9 : decode cX0_takeFrom 9 = .ok (.iconst 0, 1) := by decide +kernel
theorem dX0_takeFrom_10 : decode cX0_takeFrom 10 = .ok (.bipush 7, 2) := by decide +kernel
theorem dX0_takeFrom_12 : decode cX0_takeFrom 12 = .ok (.invokestatic 49, 3) := by decide +kernel
theorem dX0_takeFrom_15 : decode cX0_takeFrom 15 = .ok (.aload_n 1, 1) := by decide +kernel
theorem dX0_takeFrom_16 : decode cX0_takeFrom 16 = .ok (.getfield 15, 3) := by decide +kernel
theorem dX0_takeFrom_19 : decode cX0_takeFrom 19 = .ok (.iconst 0, 1) := by decide +kernel
theorem dX0_takeFrom_20 : decode cX0_takeFrom 20 = .ok (.aload_n 0, 1) := by decide +kernel
theorem dX0_takeFrom_21 : decode cX0_takeFrom 21 = .ok (.getfield 15, 3) := by decide +kernel
theorem dX0_takeFrom_24 : decode cX0_takeFrom 24 = .ok (.iconst 0, 1) := by decide +kernel
theorem dX0_takeFrom_25 : decode cX0_takeFrom 25 = .ok (.bipush 7, 2) := by decide +kernel
theorem dX0_takeFrom_27 : decode cX0_takeFrom 27 = .ok (.invokestatic 49, 3) := by decide +kernel
theorem dX0_takeFrom_30 : decode cX0_takeFrom 30 = .ok (.aload_n 1, 1) := by decide +kernel
theorem dX0_takeFrom_31 : decode cX0_takeFrom 31 = .ok (.getfield 18, 3) := by decide +kernel
theorem dX0_takeFrom_34 : decode cX0_takeFrom 34 = .ok (.iconst 0, 1) := by decide +kernel
theorem dX0_takeFrom_35 : decode cX0_takeFrom 35 = .ok (.aload_n 0, 1) := by decide +kernel
theorem dX0_takeFrom_36 : decode cX0_takeFrom 36 = .ok (.getfield 18, 3) := by decide +kernel
theorem dX0_takeFrom_39 : decode cX0_takeFrom 39 = .ok (.iconst 0, 1) := by decide +kernel
theorem dX0_takeFrom_40 : decode cX0_takeFrom 40 = .ok (.bipush 7, 2) := by decide +kernel
theorem dX0_takeFrom_42 : decode cX0_takeFrom 42 = .ok (.invokestatic 49, 3) := by decide +kernel
theorem dX0_takeFrom_45 : decode cX0_takeFrom 45 = .ok (.aload_n 1, 1) := by decide +kernel
theorem dX0_takeFrom_46 : decode cX0_takeFrom 46 = .ok (.getfield 21, 3) := by decide +kernel
theorem dX0_takeFrom_49 : decode cX0_takeFrom 49 = .ok (.iconst 0, 1) := by decide +kernel
theorem dX0_takeFrom_50 : decode cX0_takeFrom 50 = .ok (.aload_n 0, 1) := by decide +kernel
theorem dX0_takeFrom_51 : decode cX0_takeFrom 51 = .ok (.getfield 21, 3) := by decide +kernel
theorem dX0_takeFrom_54 : decode cX0_takeFrom 54 = .ok (.iconst 0, 1) := by decide +kernel
theorem dX0_takeFrom_55 : decode cX0_takeFrom 55 = .ok (.bipush 7, 2) := by decide +kernel
theorem dX0_takeFrom_57 : decode cX0_takeFrom 57 = .ok (.invokestatic 49, 3) := by decide +kernel
theorem dX0_takeFrom_60 : decode cX0_takeFrom 60 = .ok (.aload_n 1, 1) := by decide +kernel
theorem dX0_takeFrom_61 : decode cX0_takeFrom 61 = .ok (.getfield 24, 3) := by decide +kernel
theorem dX0_takeFrom_64 : decode cX0_takeFrom 64 = .ok (.iconst 0, 1) := by decide +kernel
theorem dX0_takeFrom_65 : decode cX0_takeFrom 65 = .ok (.aload_n 0, 1) := by decide +kernel
theorem dX0_takeFrom_66 : decode cX0_takeFrom 66 = .ok (.getfield 24, 3) := by decide +kernel
theorem dX0_takeFrom_69 : decode cX0_takeFrom 69 = .ok (.iconst 0, 1) := by decide +kernel
theorem dX0_takeFrom_70 : decode cX0_takeFrom 70 = .ok (.bipush 7, 2) := by decide +kernel
theorem dX0_takeFrom_72 : decode cX0_takeFrom 72 = .ok (.invokestatic 49, 3) := by decide +kernel
theorem dX0_takeFrom_75 : decode cX0_takeFrom 75 = .ok (.aload_n 0, 1) := by decide +kernel
theorem dX0_takeFrom_76 : decode cX0_takeFrom 76 = .ok (.aload_n 1, 1) := by decide +kernel
theorem dX0_takeFrom_77 : decode cX0_takeFrom 77 = .ok (.getfield 30, 3) := by decide +kernel
theorem dX0_takeFrom_80 : decode cX0_takeFrom 80 = .ok (.putfield 30, 3) := by decide +kernel
theorem dX0_takeFrom_83 : decode cX0_takeFrom 83 = .ok (.aload_n 0, 1) := by decide +kernel
theorem dX0_takeFrom_84 : decode cX0_takeFrom 84 = .ok (.aload_n 1, 1) := by decide +kernel
theorem dX0_takeFrom_85 : decode cX0_takeFrom 85 = .ok (.getfield 34, 3) := by decide +kernel
theorem dX0_takeFrom_88 : decode cX0_takeFrom 88 = .ok (.putfield 34, 3) := by decide +kernel
theorem dX0_takeFrom_91 : decode cX0_takeFrom 91 = .ok (.return_, 1) := by decide +kernel
theorem dX0_goOn_0 : decode cX0_goOn 0 = .ok (.iconst 0, 1) := by decide +kernel
theorem dX0_goOn_1 : decode cX0_goOn 1 = .ok (.istore_n 2, 1) := by decide +kernel
theorem dX0_goOn_2 : decode cX0_goOn 2 = .ok (.iload_n 2, 1) := by decide +kernel
theorem dX0_goOn_3 : decode cX0_goOn 3 = .ok (.iload_n 1, 1) := by decide +kernel
theorem dX0_goOn_4 : decode cX0_goOn 4 = .ok (.if_icmp .ge 13, 3) := by decide +kernel
theorem dX0_goOn_7 : decode cX0_goOn 7 = .ok (.aload_n 0, 1) := by decide +kernel
theorem dX0_goOn_8 : decode cX0_goOn 8 = .ok (.invokevirtual 55, 3) := by decide +kernel
theorem dX0_goOn_11 : decode cX0_goOn 11 = .ok (.iinc 2 1, 3) := by decide +kernel
theorem dX0_goOn_14 : decode cX0_goOn 14 = .ok (.goto (-12), 3) := by decide +kernel
theorem dX0_goOn_17 : decode cX0_goOn 17 = .ok (.return_, 1) := by decide +kernel
theorem dX0_letPass_0 : decode cX0_letPass 0 = .ok (.iconst 0, 1) := by decide +kernel
theorem dX0_letPass_1 : decode cX0_letPass 1 = .ok (.istore_n 1, 1) := by decide +kernel
theorem dX0_letPass_2 : decode cX0_letPass 2 = .ok (.iload_n 1, 1) := by decide +kernel
theorem dX0_letPass_3 : decode cX0_letPass 3 = .ok (.aload_n 0, 1) := by decide +kernel
theorem dX0_letPass_4 : decode cX0_letPass 4 = .ok (.getfield 30, 3) := by decide +kernel
theorem dX0_letPass_7 : decode cX0_letPass 7 = .ok (.if_icmp .ge 35, 3) := by decide +kernel
theorem dX0_letPass_10 : decode cX0_letPass 10 = .ok (.aload_n 0, 1) := by decide +kernel
theorem dX0_letPass_11 : decode cX0_letPass 11 = .ok (.getfield 24, 3) := by decide +kernel
theorem dX0_letPass_14 : decode cX0_letPass 14 = .ok (.iload_n 1, 1) := by decide +kernel
theorem dX0_letPass_15 : decode cX0_letPass 15 = .ok (.iaload, 1) := by decide +kernel
theorem dX0_letPass_16 : decode cX0_letPass 16 = .ok (.istore_n 2, 1) := by decide +kernel
theorem dX0_letPass_17 : decode cX0_letPass 17 = .ok (.aload_n 0, 1) := by decide +kernel
theorem dX0_letPass_18 : decode cX0_letPass 18 = .ok (.iload_n 2, 1) := by decide +kernel
theorem dX0_letPass_19 : decode cX0_letPass 19 = .ok (.invokevirtual 58, 3) := by decide +kernel
theorem dX0_letPass_22 : decode cX0_letPass 22 = .ok (.ifCond .eq 14, 3) := by decide +kernel
theorem dX0_letPass_25 : decode cX0_letPass 25 = .ok (.aload_n 0, 1) := by decide +kernel
theorem dX0_letPass_26 : decode cX0_letPass 26 = .ok (.getfield 27, 3) := by decide +kernel
theorem dX0_letPass_29 : decode cX0_letPass 29 = .ok (.iload_n 2, 1) := by decide +kernel
theorem dX0_letPass_30 : decode cX0_letPass 30 = .ok (.aload_n 0, 1) := by decide +kernel
theorem dX0_letPass_31 : decode cX0_letPass 31 = .ok (.iload_n 1, 1) := by decide +kernel
theorem dX0_letPass_32 : decode cX0_letPass 32 = .ok (.invokevirtual 62, 3) := by decide +kernel
theorem dX0_letPass_35 : decode cX0_letPass 35 = .ok (.iastore, 1) := by decide +kernel
theorem dX0_letPass_36 : decode cX0_letPass 36 = .ok (.iinc 1 1, 3) := by decide +kernel
theorem dX0_letPass_39 : decode cX0_letPass 39 = .ok (.goto (-37), 3) := by decide +kernel
theorem dX0_letPass_42 : decode cX0_letPass 42 = .ok (.iconst 0, 1) := by decide +kernel
theorem dX0_letPass_43 : decode cX0_letPass 43 = .ok (.istore_n 1, 1) := by decide +kernel
theorem dX0_letPass_44 : decode cX0_letPass 44 = .ok (.iload_n 1, 1) := by decide +kernel
theorem dX0_letPass_45 : decode cX0_letPass 45 = .ok (.aload_n 0, 1) := by decide +kernel
theorem dX0_letPass_46 : decode cX0_letPass 46 = .ok (.getfield 30, 3) := by decide +kernel
theorem dX0_letPass_49 : decode cX0_letPass 49 = .ok (.if_icmp .ge 58, 3) := by decide +kernel
theorem dX0_letPass_52 : decode cX0_letPass 52 = .ok (.aload_n 0, 1) := by decide +kernel
theorem dX0_letPass_53 : decode cX0_letPass 53 = .ok (.iload_n 1, 1) := by decide +kernel
theorem dX0_letPass_54 : decode cX0_letPass 54 = .ok (.invokevirtual 65, 3) := by decide +kernel
theorem dX0_letPass_57 : decode cX0_letPass 57 = .ok (.ifCond .eq 44, 3) := by decide +kernel
theorem dX0_letPass_60 : decode cX0_letPass 60 = .ok (.aload_n 0, 1) := by decide +kernel
theorem dX0_letPass_61 : decode cX0_letPass 61 = .ok (.getfield 21, 3) := by decide +kernel
theorem dX0_letPass_64 : decode cX0_letPass 64 = .ok (.iload_n 1, 1) := by decide +kernel
theorem dX0_letPass_65 : decode cX0_letPass 65 = .ok (.aload_n 0, 1) := by decide +kernel
theorem dX0_letPass_66 : decode cX0_letPass 66 = .ok (.getfield 21, 3) := by decide +kernel
theorem dX0_letPass_69 : decode cX0_letPass 69 = .ok (.iload_n 1, 1) := by decide +kernel
theorem dX0_letPass_70 : decode cX0_letPass 70 = .ok (.iaload, 1) := by decide +kernel
theorem dX0_letPass_71 : decode cX0_letPass 71 = .ok (.iconst 1, 1) := by decide +kernel
theorem dX0_letPass_72 : decode cX0_letPass 72 = .ok (.ishr, 1) := by decide +kernel
theorem dX0_letPass_73 : decode cX0_letPass 73 = .ok (.aload_n 0, 1) := by decide +kernel
theorem dX0_letPass_74 : decode cX0_letPass 74 = .ok (.aload_n 0, 1) := by decide +kernel
theorem dX0_letPass_75 : decode cX0_letPass 75 = .ok (.getfield 9, 3) := by decide +kernel
theorem dX0_letPass_78 : decode cX0_letPass 78 = .ok (.iload_n 1, 1) := by decide +kernel
theorem dX0_letPass_79 : decode cX0_letPass 79 = .ok (.iaload, 1) := by decide +kernel
theorem dX0_letPass_80 : decode cX0_letPass 80 = .ok (.iload_n 1, 1) := by decide +kernel
theorem dX0_letPass_81 : decode cX0_letPass 81 = .ok (.aload_n 0, 1) := by decide +kernel
theorem dX0_letPass_82 : decode cX0_letPass 82 = .ok (.getfield 27, 3) := by decide +kernel
theorem dX0_letPass_85 : decode cX0_letPass 85 = .ok (.iload_n 1, 1) := by decide +kernel
theorem dX0_letPass_86 : decode cX0_letPass 86 = .ok (.iaload, 1) := by decide +kernel
theorem dX0_letPass_87 : decode cX0_letPass 87 = .ok (.invokevirtual 68, 3) := by decide +kernel
theorem dX0_letPass_90 : decode cX0_letPass 90 = .ok (.aload_n 0, 1) := by decide +kernel
theorem dX0_letPass_91 : decode cX0_letPass 91 = .ok (.getfield 15, 3) := by decide +kernel
theorem dX0_letPass_94 : decode cX0_letPass 94 = .ok (.iload_n 1, 1) := by decide +kernel
theorem dX0_letPass_95 : decode cX0_letPass 95 = .ok (.iaload, 1) := by decide +kernel
theorem dX0_letPass_96 : decode cX0_letPass 96 = .ok (.iconst 1, 1) := by decide +kernel
theorem dX0_letPass_97 : decode cX0_letPass 97 = .ok (.isub, 1) := by decide +kernel
theorem dX0_letPass_98 : decode cX0_letPass 98 = .ok (.ishl, 1) := by decide +kernel
theorem dX0_letPass_99 : decode cX0_letPass 99 = .ok (.ior, 1) := by decide +kernel
theorem dX0_letPass_100 : decode cX0_letPass 100 = .ok (.iastore, 1) := by decide +kernel
theorem dX0_letPass_101 : decode cX0_letPass 101 = .ok (.iinc 1 1, 3) := by decide +kernel
theorem dX0_letPass_104 : decode cX0_letPass 104 = .ok (.goto (-60), 3) := by decide +kernel
theorem dX0_letPass_107 : decode cX0_letPass 107 = .ok (.aload_n 0, 1) := by decide +kernel
theorem dX0_letPass_108 : decode cX0_letPass 108 = .ok (.dup, 1) := by decide +kernel
theorem dX0_letPass_109 : decode cX0_letPass 109 = .ok (.getfield 34, 3) := by decide +kernel
theorem dX0_letPass_112 : decode cX0_letPass 112 = .ok (.iconst 1, 1) := by decide +kernel
theorem dX0_letPass_113 : decode cX0_letPass 113 = .ok (.iadd, 1) := by decide +kernel
theorem dX0_letPass_114 : decode cX0_letPass 114 = .ok (.putfield 34, 3) := by decide +kernel
theorem dX0_letPass_117 : decode cX0_letPass 117 = .ok (.return_, 1) := by decide +kernel
theorem dX0_turnSlot_0 : decode cX0_turnSlot 0 = .ok (.aload_n 0, 1) := by decide +kernel
theorem dX0_turnSlot_1 : decode cX0_turnSlot 1 = .ok (.iload_n 1, 1) := by decide +kernel
theorem dX0_turnSlot_2 : decode cX0_turnSlot 2 = .ok (.invokevirtual 58, 3) := by decide +kernel
theorem dX0_turnSlot_5 : decode cX0_turnSlot 5 = .ok (.ifCond .eq 15, 3) := by decide +kernel
theorem dX0_turnSlot_8 : decode cX0_turnSlot 8 = .ok (.aload_n 0, 1) := by decide +kernel
theorem dX0_turnSlot_9 : decode cX0_turnSlot 9 = .ok (.getfield 21, 3) := by decide +kernel
theorem dX0_turnSlot_12 : decode cX0_turnSlot 12 = .ok (.iload_n 1, 1) := by decide +kernel
theorem dX0_turnSlot_13 : decode cX0_turnSlot 13 = .ok (.dup2, 1) := by decide +kernel
theorem dX0_turnSlot_14 : decode cX0_turnSlot 14 = .ok (.iaload, 1) := by decide +kernel
theorem dX0_turnSlot_15 : decode cX0_turnSlot 15 = .ok (.iconst 1, 1) := by decide +kernel
theorem dX0_turnSlot_16 : decode cX0_turnSlot 16 = .ok (.iload_n 2, 1) := by decide +kernel
theorem dX0_turnSlot_17 : decode cX0_turnSlot 17 = .ok (.ishl, 1) := by decide +kernel
theorem dX0_turnSlot_18 : decode cX0_turnSlot 18 = .ok (.ixor, 1) := by decide +kernel
theorem dX0_turnSlot_19 : decode cX0_turnSlot 19 = .ok (.iastore, 1) := by decide +kernel
theorem dX0_turnSlot_20 : decode cX0_turnSlot 20 = .ok (.return_, 1) := by decide +kernel
theorem dX0_swapWays_0 : decode cX0_swapWays 0 = .ok (.aload_n 0, 1) := by decide +kernel
theorem dX0_swapWays_1 : decode cX0_swapWays 1 = .ok (.iload_n 1, 1) := by decide +kernel
theorem dX0_swapWays_2 : decode cX0_swapWays 2 = .ok (.invokevirtual 58, 3) := by decide +kernel
theorem dX0_swapWays_5 : decode cX0_swapWays 5 = .ok (.ifCond .eq 37, 3) := by decide +kernel
theorem dX0_swapWays_8 : decode cX0_swapWays 8 = .ok (.aload_n 0, 1) := by decide +kernel
theorem dX0_swapWays_9 : decode cX0_swapWays 9 = .ok (.iload_n 2, 1) := by decide +kernel
theorem dX0_swapWays_10 : decode cX0_swapWays 10 = .ok (.invokevirtual 58, 3) := by decide +kernel
theorem dX0_swapWays_13 : decode cX0_swapWays 13 = .ok (.ifCond .eq 29, 3) := by decide +kernel
theorem dX0_swapWays_16 : decode cX0_swapWays 16 = .ok (.aload_n 0, 1) := by decide +kernel
theorem dX0_swapWays_17 : decode cX0_swapWays 17 = .ok (.getfield 24, 3) := by decide +kernel
theorem dX0_swapWays_20 : decode cX0_swapWays 20 = .ok (.iload_n 1, 1) := by decide +kernel
theorem dX0_swapWays_21 : decode cX0_swapWays 21 = .ok (.iaload, 1) := by decide +kernel
theorem dX0_swapWays_22 : decode cX0_swapWays 22 = .ok (.istore_n 3, 1) := by decide +kernel
theorem dX0_swapWays_23 : decode cX0_swapWays 23 = .ok (.aload_n 0, 1) := by decide +kernel
theorem dX0_swapWays_24 : decode cX0_swapWays 24 = .ok (.getfield 24, 3) := by decide +kernel
theorem dX0_swapWays_27 : decode cX0_swapWays 27 = .ok (.iload_n 1, 1) := by decide +kernel
theorem dX0_swapWays_28 : decode cX0_swapWays 28 = .ok (.aload_n 0, 1) := by decide +kernel
theorem dX0_swapWays_29 : decode cX0_swapWays 29 = .ok (.getfield 24, 3) := by decide +kernel
theorem dX0_swapWays_32 : decode cX0_swapWays 32 = .ok (.iload_n 2, 1) := by decide +kernel
theorem dX0_swapWays_33 : decode cX0_swapWays 33 = .ok (.iaload, 1) := by decide +kernel
theorem dX0_swapWays_34 : decode cX0_swapWays 34 = .ok (.iastore, 1) := by decide +kernel
theorem dX0_swapWays_35 : decode cX0_swapWays 35 = .ok (.aload_n 0, 1) := by decide +kernel
theorem dX0_swapWays_36 : decode cX0_swapWays 36 = .ok (.getfield 24, 3) := by decide +kernel
theorem dX0_swapWays_39 : decode cX0_swapWays 39 = .ok (.iload_n 2, 1) := by decide +kernel
theorem dX0_swapWays_40 : decode cX0_swapWays 40 = .ok (.iload_n 3, 1) := by decide +kernel
theorem dX0_swapWays_41 : decode cX0_swapWays 41 = .ok (.iastore, 1) := by decide +kernel
theorem dX0_swapWays_42 : decode cX0_swapWays 42 = .ok (.return_, 1) := by decide +kernel
theorem dX0_putWord_0 : decode cX0_putWord 0 = .ok (.aload_n 0, 1) := by decide +kernel
theorem dX0_putWord_1 : decode cX0_putWord 1 = .ok (.iload_n 1, 1) := by decide +kernel
theorem dX0_putWord_2 : decode cX0_putWord 2 = .ok (.invokevirtual 58, 3) := by decide +kernel
theorem dX0_putWord_5 : decode cX0_putWord 5 = .ok (.ifCond .eq 10, 3) := by decide +kernel
theorem dX0_putWord_8 : decode cX0_putWord 8 = .ok (.aload_n 0, 1) := by decide +kernel
theorem dX0_putWord_9 : decode cX0_putWord 9 = .ok (.getfield 21, 3) := by decide +kernel
theorem dX0_putWord_12 : decode cX0_putWord 12 = .ok (.iload_n 1, 1) := by decide +kernel
theorem dX0_putWord_13 : decode cX0_putWord 13 = .ok (.iload_n 2, 1) := by decide +kernel
theorem dX0_putWord_14 : decode cX0_putWord 14 = .ok (.iastore, 1) := by decide +kernel
theorem dX0_putWord_15 : decode cX0_putWord 15 = .ok (.return_, 1) := by decide +kernel
theorem dX0_putEnds_0 : decode cX0_putEnds 0 = .ok (.iconst 0, 1) := by decide +kernel
theorem dX0_putEnds_1 : decode cX0_putEnds 1 = .ok (.istore_n 2, 1) := by decide +kernel
theorem dX0_putEnds_2 : decode cX0_putEnds 2 = .ok (.iload_n 2, 1) := by decide +kernel
theorem dX0_putEnds_3 : decode cX0_putEnds 3 = .ok (.aload_n 0, 1) := by decide +kernel
theorem dX0_putEnds_4 : decode cX0_putEnds 4 = .ok (.getfield 30, 3) := by decide +kernel
theorem dX0_putEnds_7 : decode cX0_putEnds 7 = .ok (.if_icmp .ge 30, 3) := by decide +kernel
theorem dX0_putEnds_10 : decode cX0_putEnds 10 = .ok (.aload_n 0, 1) := by decide +kernel
theorem dX0_putEnds_11 : decode cX0_putEnds 11 = .ok (.getfield 21, 3) := by decide +kernel
theorem dX0_putEnds_14 : decode cX0_putEnds 14 = .ok (.iload_n 2, 1) := by decide +kernel
theorem dX0_putEnds_15 : decode cX0_putEnds 15 = .ok (.aload_n 0, 1) := by decide +kernel
theorem dX0_putEnds_16 : decode cX0_putEnds 16 = .ok (.getfield 21, 3) := by decide +kernel
theorem dX0_putEnds_19 : decode cX0_putEnds 19 = .ok (.iload_n 2, 1) := by decide +kernel
theorem dX0_putEnds_20 : decode cX0_putEnds 20 = .ok (.iaload, 1) := by decide +kernel
theorem dX0_putEnds_21 : decode cX0_putEnds 21 = .ok (.bipush (-2), 2) := by decide +kernel
theorem dX0_putEnds_23 : decode cX0_putEnds 23 = .ok (.iand, 1) := by decide +kernel
theorem dX0_putEnds_24 : decode cX0_putEnds 24 = .ok (.iload_n 1, 1) := by decide +kernel
theorem dX0_putEnds_25 : decode cX0_putEnds 25 = .ok (.iload_n 2, 1) := by decide +kernel
theorem dX0_putEnds_26 : decode cX0_putEnds 26 = .ok (.ishr, 1) := by decide +kernel
theorem dX0_putEnds_27 : decode cX0_putEnds 27 = .ok (.iconst 1, 1) := by decide +kernel
theorem dX0_putEnds_28 : decode cX0_putEnds 28 = .ok (.iand, 1) := by decide +kernel
theorem dX0_putEnds_29 : decode cX0_putEnds 29 = .ok (.ior, 1) := by decide +kernel
theorem dX0_putEnds_30 : decode cX0_putEnds 30 = .ok (.iastore, 1) := by decide +kernel
theorem dX0_putEnds_31 : decode cX0_putEnds 31 = .ok (.iinc 2 1, 3) := by decide +kernel
theorem dX0_putEnds_34 : decode cX0_putEnds 34 = .ok (.goto (-32), 3) := by decide +kernel
theorem dX0_putEnds_37 : decode cX0_putEnds 37 = .ok (.return_, 1) := by decide +kernel
theorem dX0_empty_0 : decode cX0_empty 0 = .ok (.iconst 0, 1) := by decide +kernel
theorem dX0_empty_1 : decode cX0_empty 1 = .ok (.istore_n 2, 1) := by decide +kernel
theorem dX0_empty_2 : decode cX0_empty 2 = .ok (.iload_n 2, 1) := by decide +kernel
theorem dX0_empty_3 : decode cX0_empty 3 = .ok (.aload_n 0, 1) := by decide +kernel
theorem dX0_empty_4 : decode cX0_empty 4 = .ok (.getfield 30, 3) := by decide +kernel
theorem dX0_empty_7 : decode cX0_empty 7 = .ok (.if_icmp .ge 25, 3) := by decide +kernel
theorem dX0_empty_10 : decode cX0_empty 10 = .ok (.iload_n 1, 1) := by decide +kernel
theorem dX0_empty_11 : decode cX0_empty 11 = .ok (.iload_n 2, 1) := by decide +kernel
theorem dX0_empty_12 : decode cX0_empty 12 = .ok (.ishr, 1) := by decide +kernel
theorem dX0_empty_13 : decode cX0_empty 13 = .ok (.iconst 1, 1) := by decide +kernel
theorem dX0_empty_14 : decode cX0_empty 14 = .ok (.iand, 1) := by decide +kernel
theorem dX0_empty_15 : decode cX0_empty 15 = .ok (.iconst 1, 1) := by decide +kernel
theorem dX0_empty_16 : decode cX0_empty 16 = .ok (.if_icmp .ne 10, 3) := by decide +kernel
theorem dX0_empty_19 : decode cX0_empty 19 = .ok (.aload_n 0, 1) := by decide +kernel
theorem dX0_empty_20 : decode cX0_empty 20 = .ok (.getfield 21, 3) := by decide +kernel
theorem dX0_empty_23 : decode cX0_empty 23 = .ok (.iload_n 2, 1) := by decide +kernel
theorem dX0_empty_24 : decode cX0_empty 24 = .ok (.iconst 0, 1) := by decide +kernel
theorem dX0_empty_25 : decode cX0_empty 25 = .ok (.iastore, 1) := by decide +kernel
theorem dX0_empty_26 : decode cX0_empty 26 = .ok (.iinc 2 1, 3) := by decide +kernel
theorem dX0_empty_29 : decode cX0_empty 29 = .ok (.goto (-27), 3) := by decide +kernel
theorem dX0_empty_32 : decode cX0_empty 32 = .ok (.return_, 1) := by decide +kernel
theorem dX0_isOf_0 : decode cX0_isOf 0 = .ok (.aload_n 0, 1) := by decide +kernel
theorem dX0_isOf_1 : decode cX0_isOf 1 = .ok (.getfield 9, 3) := by decide +kernel
theorem dX0_isOf_4 : decode cX0_isOf 4 = .ok (.iload_n 1, 1) := by decide +kernel
theorem dX0_isOf_5 : decode cX0_isOf 5 = .ok (.iaload, 1) := by decide +kernel
theorem dX0_isOf_6 : decode cX0_isOf 6 = .ok (.istore_n 3, 1) := by decide +kernel
theorem dX0_isOf_7 : decode cX0_isOf 7 = .ok (.iload_n 3, 1) := by decide +kernel
theorem dX0_isOf_8 : decode cX0_isOf 8 = .ok (.iload_n 2, 1) := by decide +kernel
theorem dX0_isOf_9 : decode cX0_isOf 9 = .ok (.if_icmp .eq 23, 3) := by decide +kernel
theorem dX0_isOf_12 : decode cX0_isOf 12 = .ok (.iload_n 2, 1) := by decide +kernel
theorem dX0_isOf_13 : decode cX0_isOf 13 = .ok (.iconst 1, 1) := by decide +kernel
theorem dX0_isOf_14 : decode cX0_isOf 14 = .ok (.if_icmp .ne 8, 3) := by decide +kernel
theorem dX0_isOf_17 : decode cX0_isOf 17 = .ok (.iload_n 3, 1) := by decide +kernel
theorem dX0_isOf_18 : decode cX0_isOf 18 = .ok (.iconst 4, 1) := by decide +kernel
theorem dX0_isOf_19 : decode cX0_isOf 19 = .ok (.if_icmp .eq 13, 3) := by decide +kernel
theorem dX0_isOf_22 : decode cX0_isOf 22 = .ok (.iload_n 2, 1) := by decide +kernel
theorem dX0_isOf_23 : decode cX0_isOf 23 = .ok (.iconst 2, 1) := by decide +kernel
theorem dX0_isOf_24 : decode cX0_isOf 24 = .ok (.if_icmp .ne 12, 3) := by decide +kernel
theorem dX0_isOf_27 : decode cX0_isOf 27 = .ok (.iload_n 3, 1) := by decide +kernel
theorem dX0_isOf_28 : decode cX0_isOf 28 = .ok (.iconst 5, 1) := by decide +kernel
theorem dX0_isOf_29 : decode cX0_isOf 29 = .ok (.if_icmp .ne 7, 3) := by decide +kernel
theorem dX0_isOf_32 : decode cX0_isOf 32 = .ok (.iconst 1, 1) := by decide +kernel
theorem dX0_isOf_33 : decode cX0_isOf 33 = .ok (.goto 4, 3) := by decide +kernel
theorem dX0_isOf_36 : decode cX0_isOf 36 = .ok (.iconst 0, 1) := by decide +kernel
theorem dX0_isOf_37 : decode cX0_isOf 37 = .ok (.ireturn, 1) := by decide +kernel
theorem dX0_isReady_0 : decode cX0_isReady 0 = .ok (.aload_n 0, 1) := by decide +kernel
theorem dX0_isReady_1 : decode cX0_isReady 1 = .ok (.getfield 9, 3) := by decide +kernel
theorem dX0_isReady_4 : decode cX0_isReady 4 = .ok (.iload_n 1, 1) := by decide +kernel
theorem dX0_isReady_5 : decode cX0_isReady 5 = .ok (.iaload, 1) := by decide +kernel
theorem dX0_isReady_6 : decode cX0_isReady 6 = .ok (.iconst 3, 1) := by decide +kernel
theorem dX0_isReady_7 : decode cX0_isReady 7 = .ok (.if_icmp .ne 12, 3) := by decide +kernel
theorem dX0_isReady_10 : decode cX0_isReady 10 = .ok (.aload_n 0, 1) := by decide +kernel
theorem dX0_isReady_11 : decode cX0_isReady 11 = .ok (.getfield 34, 3) := by decide +kernel
theorem dX0_isReady_14 : decode cX0_isReady 14 = .ok (.iconst 2, 1) := by decide +kernel
theorem dX0_isReady_15 : decode cX0_isReady 15 = .ok (.irem, 1) := by decide +kernel
theorem dX0_isReady_16 : decode cX0_isReady 16 = .ok (.ifCond .ne 7, 3) := by decide +kernel
theorem dX0_isReady_19 : decode cX0_isReady 19 = .ok (.iconst 1, 1) := by decide +kernel
theorem dX0_isReady_20 : decode cX0_isReady 20 = .ok (.goto 4, 3) := by decide +kernel
theorem dX0_isReady_23 : decode cX0_isReady 23 = .ok (.iconst 0, 1) := by decide +kernel
theorem dX0_isReady_24 : decode cX0_isReady 24 = .ok (.ireturn, 1) := by decide +kernel
theorem dX0_comesOut_0 : decode cX0_comesOut 0 = .ok (.aload_n 0, 1) := by decide +kernel
theorem dX0_comesOut_1 : decode cX0_comesOut 1 = .ok (.iload_n 1, 1) := by decide +kernel
theorem dX0_comesOut_2 : decode cX0_comesOut 2 = .ok (.invokevirtual 65, 3) := by decide +kernel
theorem dX0_comesOut_5 : decode cX0_comesOut 5 = .ok (.ifCond .eq 14, 3) := by decide +kernel
theorem dX0_comesOut_8 : decode cX0_comesOut 8 = .ok (.aload_n 0, 1) := by decide +kernel
theorem dX0_comesOut_9 : decode cX0_comesOut 9 = .ok (.getfield 21, 3) := by decide +kernel
theorem dX0_comesOut_12 : decode cX0_comesOut 12 = .ok (.iload_n 1, 1) := by decide +kernel
theorem dX0_comesOut_13 : decode cX0_comesOut 13 = .ok (.iaload, 1) := by decide +kernel
theorem dX0_comesOut_14 : decode cX0_comesOut 14 = .ok (.iconst 1, 1) := by decide +kernel
theorem dX0_comesOut_15 : decode cX0_comesOut 15 = .ok (.iand, 1) := by decide +kernel
theorem dX0_comesOut_16 : decode cX0_comesOut 16 = .ok (.goto 4, 3) := by decide +kernel
theorem dX0_comesOut_19 : decode cX0_comesOut 19 = .ok (.iconst 0, 1) := by decide +kernel
theorem dX0_comesOut_20 : decode cX0_comesOut 20 = .ok (.ireturn, 1) := by decide +kernel
theorem dX0_cameTo_0 : decode cX0_cameTo 0 = .ok (.iconst 0, 1) := by decide +kernel
theorem dX0_cameTo_1 : decode cX0_cameTo 1 = .ok (.istore_n 2, 1) := by decide +kernel
theorem dX0_cameTo_2 : decode cX0_cameTo 2 = .ok (.iload_n 2, 1) := by decide +kernel
theorem dX0_cameTo_3 : decode cX0_cameTo 3 = .ok (.aload_n 0, 1) := by decide +kernel
theorem dX0_cameTo_4 : decode cX0_cameTo 4 = .ok (.getfield 30, 3) := by decide +kernel
theorem dX0_cameTo_7 : decode cX0_cameTo 7 = .ok (.if_icmp .ge 25, 3) := by decide +kernel
theorem dX0_cameTo_10 : decode cX0_cameTo 10 = .ok (.aload_n 0, 1) := by decide +kernel
theorem dX0_cameTo_11 : decode cX0_cameTo 11 = .ok (.getfield 24, 3) := by decide +kernel
theorem dX0_cameTo_14 : decode cX0_cameTo 14 = .ok (.iload_n 2, 1) := by decide +kernel
theorem dX0_cameTo_15 : decode cX0_cameTo 15 = .ok (.iaload, 1) := by decide +kernel
theorem dX0_cameTo_16 : decode cX0_cameTo 16 = .ok (.iload_n 1, 1) := by decide +kernel
theorem dX0_cameTo_17 : decode cX0_cameTo 17 = .ok (.if_icmp .ne 9, 3) := by decide +kernel
theorem dX0_cameTo_20 : decode cX0_cameTo 20 = .ok (.aload_n 0, 1) := by decide +kernel
theorem dX0_cameTo_21 : decode cX0_cameTo 21 = .ok (.iload_n 2, 1) := by decide +kernel
theorem dX0_cameTo_22 : decode cX0_cameTo 22 = .ok (.invokevirtual 62, 3) := by decide +kernel
theorem dX0_cameTo_25 : decode cX0_cameTo 25 = .ok (.ireturn, 1) := by decide +kernel
theorem dX0_cameTo_26 : decode cX0_cameTo 26 = .ok (.iinc 2 1, 3) := by decide +kernel
theorem dX0_cameTo_29 : decode cX0_cameTo 29 = .ok (.goto (-27), 3) := by decide +kernel
theorem dX0_cameTo_32 : decode cX0_cameTo 32 = .ok (.iconst 0, 1) := by decide +kernel
theorem dX0_cameTo_33 : decode cX0_cameTo 33 = .ok (.ireturn, 1) := by decide +kernel
theorem dX0_isStruck_0 : decode cX0_isStruck 0 = .ok (.aload_n 0, 1) := by decide +kernel
theorem dX0_isStruck_1 : decode cX0_isStruck 1 = .ok (.iload_n 1, 1) := by decide +kernel
theorem dX0_isStruck_2 : decode cX0_isStruck 2 = .ok (.invokevirtual 72, 3) := by decide +kernel
theorem dX0_isStruck_5 : decode cX0_isStruck 5 = .ok (.ifCond .ne 7, 3) := by decide +kernel
theorem dX0_isStruck_8 : decode cX0_isStruck 8 = .ok (.iconst 1, 1) := by decide +kernel
theorem dX0_isStruck_9 : decode cX0_isStruck 9 = .ok (.goto 4, 3) := by decide +kernel
theorem dX0_isStruck_12 : decode cX0_isStruck 12 = .ok (.iconst 0, 1) := by decide +kernel
theorem dX0_isStruck_13 : decode cX0_isStruck 13 = .ok (.ireturn, 1) := by decide +kernel
theorem dX0_ticksTillStruck_0 : decode cX0_ticksTillStruck 0 = .ok (.aload_n 0, 1) := by decide +kernel
theorem dX0_ticksTillStruck_1 : decode cX0_ticksTillStruck 1 = .ok (.getfield 18, 3) := by decide +kernel
theorem dX0_ticksTillStruck_4 : decode cX0_ticksTillStruck 4 = .ok (.iload_n 1, 1) := by decide +kernel
theorem dX0_ticksTillStruck_5 : decode cX0_ticksTillStruck 5 = .ok (.iaload, 1) := by decide +kernel
theorem dX0_ticksTillStruck_6 : decode cX0_ticksTillStruck 6 = .ok (.iconst 2, 1) := by decide +kernel
theorem dX0_ticksTillStruck_7 : decode cX0_ticksTillStruck 7 = .ok (.iadd, 1) := by decide +kernel
theorem dX0_ticksTillStruck_8 : decode cX0_ticksTillStruck 8 = .ok (.istore_n 2, 1) := by decide +kernel
theorem dX0_ticksTillStruck_9 : decode cX0_ticksTillStruck 9 = .ok (.iload_n 2, 1) := by decide +kernel
theorem dX0_ticksTillStruck_10 : decode cX0_ticksTillStruck 10 = .ok (.ifCond .le 16, 3) := by decide +kernel
theorem dX0_ticksTillStruck_13 : decode cX0_ticksTillStruck 13 = .ok (.iload_n 2, 1) := by decide +kernel
theorem dX0_ticksTillStruck_14 : decode cX0_ticksTillStruck 14 = .ok (.aload_n 0, 1) := by decide +kernel
theorem dX0_ticksTillStruck_15 : decode cX0_ticksTillStruck 15 = .ok (.getfield 34, 3) := by decide +kernel
theorem dX0_ticksTillStruck_18 : decode cX0_ticksTillStruck 18 = .ok (.iload_n 2, 1) := by decide +kernel
theorem dX0_ticksTillStruck_19 : decode cX0_ticksTillStruck 19 = .ok (.irem, 1) := by decide +kernel
theorem dX0_ticksTillStruck_20 : decode cX0_ticksTillStruck 20 = .ok (.isub, 1) := by decide +kernel
theorem dX0_ticksTillStruck_21 : decode cX0_ticksTillStruck 21 = .ok (.iload_n 2, 1) := by decide +kernel
theorem dX0_ticksTillStruck_22 : decode cX0_ticksTillStruck 22 = .ok (.irem, 1) := by decide +kernel
theorem dX0_ticksTillStruck_23 : decode cX0_ticksTillStruck 23 = .ok (.goto 4, 3) := by decide +kernel
theorem dX0_ticksTillStruck_26 : decode cX0_ticksTillStruck 26 = .ok (.iconst 0, 1) := by decide +kernel
theorem dX0_ticksTillStruck_27 : decode cX0_ticksTillStruck 27 = .ok (.ireturn, 1) := by decide +kernel
theorem dX0_sentAs_0 : decode cX0_sentAs 0 = .ok (.aload_n 0, 1) := by decide +kernel
theorem dX0_sentAs_1 : decode cX0_sentAs 1 = .ok (.getfield 21, 3) := by decide +kernel
theorem dX0_sentAs_4 : decode cX0_sentAs 4 = .ok (.iload_n 2, 1) := by decide +kernel
theorem dX0_sentAs_5 : decode cX0_sentAs 5 = .ok (.iaload, 1) := by decide +kernel
theorem dX0_sentAs_6 : decode cX0_sentAs 6 = .ok (.aload_n 0, 1) := by decide +kernel
theorem dX0_sentAs_7 : decode cX0_sentAs 7 = .ok (.getfield 15, 3) := by decide +kernel
theorem dX0_sentAs_10 : decode cX0_sentAs 10 = .ok (.iload_n 2, 1) := by decide +kernel
theorem dX0_sentAs_11 : decode cX0_sentAs 11 = .ok (.iaload, 1) := by decide +kernel
theorem dX0_sentAs_12 : decode cX0_sentAs 12 = .ok (.iconst 1, 1) := by decide +kernel
theorem dX0_sentAs_13 : decode cX0_sentAs 13 = .ok (.isub, 1) := by decide +kernel
theorem dX0_sentAs_14 : decode cX0_sentAs 14 = .ok (.ishr, 1) := by decide +kernel
theorem dX0_sentAs_15 : decode cX0_sentAs 15 = .ok (.iconst 1, 1) := by decide +kernel
theorem dX0_sentAs_16 : decode cX0_sentAs 16 = .ok (.iand, 1) := by decide +kernel
theorem dX0_sentAs_17 : decode cX0_sentAs 17 = .ok (.iconst 1, 1) := by decide +kernel
theorem dX0_sentAs_18 : decode cX0_sentAs 18 = .ok (.if_icmp .ne 7, 3) := by decide +kernel
theorem dX0_sentAs_21 : decode cX0_sentAs 21 = .ok (.iconst 1, 1) := by decide +kernel
theorem dX0_sentAs_22 : decode cX0_sentAs 22 = .ok (.goto 4, 3) := by decide +kernel
theorem dX0_sentAs_25 : decode cX0_sentAs 25 = .ok (.iconst 0, 1) := by decide +kernel
theorem dX0_sentAs_26 : decode cX0_sentAs 26 = .ok (.istore 4, 2) := by decide +kernel
theorem dX0_sentAs_28 : decode cX0_sentAs 28 = .ok (.iload_n 1, 1) := by decide +kernel
theorem dX0_sentAs_29 : decode cX0_sentAs 29 = .ok (.tableswitch 118 1 5 #[35, 49, 118, 68, 84], 35) := by decide +kernel
theorem dX0_sentAs_64 : decode cX0_sentAs 64 = .ok (.aload_n 0, 1) := by decide +kernel
theorem dX0_sentAs_65 : decode cX0_sentAs 65 = .ok (.iload_n 2, 1) := by decide +kernel
theorem dX0_sentAs_66 : decode cX0_sentAs 66 = .ok (.invokevirtual 75, 3) := by decide +kernel
theorem dX0_sentAs_69 : decode cX0_sentAs 69 = .ok (.ifCond .eq 7, 3) := by decide +kernel
theorem dX0_sentAs_72 : decode cX0_sentAs 72 = .ok (.iconst 0, 1) := by decide +kernel
theorem dX0_sentAs_73 : decode cX0_sentAs 73 = .ok (.goto 4, 3) := by decide +kernel
theorem dX0_sentAs_76 : decode cX0_sentAs 76 = .ok (.iload_n 3, 1) := by decide +kernel
theorem dX0_sentAs_77 : decode cX0_sentAs 77 = .ok (.ireturn, 1) := by decide +kernel
theorem dX0_sentAs_78 : decode cX0_sentAs 78 = .ok (.iload 4, 2) := by decide +kernel
theorem dX0_sentAs_80 : decode cX0_sentAs 80 = .ok (.ifCond .eq 15, 3) := by decide +kernel
theorem dX0_sentAs_83 : decode cX0_sentAs 83 = .ok (.aload_n 0, 1) := by decide +kernel
theorem dX0_sentAs_84 : decode cX0_sentAs 84 = .ok (.iload_n 2, 1) := by decide +kernel
theorem dX0_sentAs_85 : decode cX0_sentAs 85 = .ok (.invokevirtual 75, 3) := by decide +kernel
theorem dX0_sentAs_88 : decode cX0_sentAs 88 = .ok (.ifCond .eq 7, 3) := by decide +kernel
theorem dX0_sentAs_91 : decode cX0_sentAs 91 = .ok (.iconst 1, 1) := by decide +kernel
theorem dX0_sentAs_92 : decode cX0_sentAs 92 = .ok (.goto 4, 3) := by decide +kernel
theorem dX0_sentAs_95 : decode cX0_sentAs 95 = .ok (.iload_n 3, 1) := by decide +kernel
theorem dX0_sentAs_96 : decode cX0_sentAs 96 = .ok (.ireturn, 1) := by decide +kernel
theorem dX0_sentAs_97 : decode cX0_sentAs 97 = .ok (.aload_n 0, 1) := by decide +kernel
theorem dX0_sentAs_98 : decode cX0_sentAs 98 = .ok (.iload_n 2, 1) := by decide +kernel
theorem dX0_sentAs_99 : decode cX0_sentAs 99 = .ok (.invokevirtual 75, 3) := by decide +kernel
theorem dX0_sentAs_102 : decode cX0_sentAs 102 = .ok (.ifCond .eq 9, 3) := by decide +kernel
theorem dX0_sentAs_105 : decode cX0_sentAs 105 = .ok (.iconst 1, 1) := by decide +kernel
theorem dX0_sentAs_106 : decode cX0_sentAs 106 = .ok (.iload_n 3, 1) := by decide +kernel
theorem dX0_sentAs_107 : decode cX0_sentAs 107 = .ok (.isub, 1) := by decide +kernel
theorem dX0_sentAs_108 : decode cX0_sentAs 108 = .ok (.goto 4, 3) := by decide +kernel
theorem dX0_sentAs_111 : decode cX0_sentAs 111 = .ok (.iload_n 3, 1) := by decide +kernel
theorem dX0_sentAs_112 : decode cX0_sentAs 112 = .ok (.ireturn, 1) := by decide +kernel
theorem dX0_sentAs_113 : decode cX0_sentAs 113 = .ok (.iload 4, 2) := by decide +kernel
theorem dX0_sentAs_115 : decode cX0_sentAs 115 = .ok (.ifCond .ne 18, 3) := by decide +kernel
theorem dX0_sentAs_118 : decode cX0_sentAs 118 = .ok (.aload_n 0, 1) := by decide +kernel
theorem dX0_sentAs_119 : decode cX0_sentAs 119 = .ok (.getfield 34, 3) := by decide +kernel
theorem dX0_sentAs_122 : decode cX0_sentAs 122 = .ok (.iconst 3, 1) := by decide +kernel
theorem dX0_sentAs_123 : decode cX0_sentAs 123 = .ok (.irem, 1) := by decide +kernel
theorem dX0_sentAs_124 : decode cX0_sentAs 124 = .ok (.ifCond .ne 7, 3) := by decide +kernel
theorem dX0_sentAs_127 : decode cX0_sentAs 127 = .ok (.iconst 0, 1) := by decide +kernel
theorem dX0_sentAs_128 : decode cX0_sentAs 128 = .ok (.goto 4, 3) := by decide +kernel
theorem dX0_sentAs_131 : decode cX0_sentAs 131 = .ok (.iload_n 3, 1) := by decide +kernel
theorem dX0_sentAs_132 : decode cX0_sentAs 132 = .ok (.ireturn, 1) := by decide +kernel
theorem dX0_sentAs_133 : decode cX0_sentAs 133 = .ok (.aload_n 0, 1) := by decide +kernel
theorem dX0_sentAs_134 : decode cX0_sentAs 134 = .ok (.iload_n 2, 1) := by decide +kernel
theorem dX0_sentAs_135 : decode cX0_sentAs 135 = .ok (.invokevirtual 75, 3) := by decide +kernel
theorem dX0_sentAs_138 : decode cX0_sentAs 138 = .ok (.ifCond .eq 7, 3) := by decide +kernel
theorem dX0_sentAs_141 : decode cX0_sentAs 141 = .ok (.iconst 1, 1) := by decide +kernel
theorem dX0_sentAs_142 : decode cX0_sentAs 142 = .ok (.goto 4, 3) := by decide +kernel
theorem dX0_sentAs_145 : decode cX0_sentAs 145 = .ok (.iload_n 3, 1) := by decide +kernel
theorem dX0_sentAs_146 : decode cX0_sentAs 146 = .ok (.ireturn, 1) := by decide +kernel
theorem dX0_sentAs_147 : decode cX0_sentAs 147 = .ok (.iload_n 3, 1) := by decide +kernel
theorem dX0_sentAs_148 : decode cX0_sentAs 148 = .ok (.ireturn, 1) := by decide +kernel
theorem dX0_tells_0 : decode cX0_tells 0 = .ok (.aload_n 0, 1) := by decide +kernel
theorem dX0_tells_1 : decode cX0_tells 1 = .ok (.iload_n 1, 1) := by decide +kernel
theorem dX0_tells_2 : decode cX0_tells 2 = .ok (.invokevirtual 78, 3) := by decide +kernel
theorem dX0_tells_5 : decode cX0_tells 5 = .ok (.istore_n 3, 1) := by decide +kernel
theorem dX0_tells_6 : decode cX0_tells 6 = .ok (.iload_n 2, 1) := by decide +kernel
theorem dX0_tells_7 : decode cX0_tells 7 = .ok (.tableswitch 100 1 4 #[29, 35, 68, 77], 29) := by decide +kernel
theorem dX0_tells_36 : decode cX0_tells 36 = .ok (.aload_n 0, 1) := by decide +kernel
theorem dX0_tells_37 : decode cX0_tells 37 = .ok (.iload_n 1, 1) := by decide +kernel
theorem dX0_tells_38 : decode cX0_tells 38 = .ok (.invokevirtual 72, 3) := by decide +kernel
theorem dX0_tells_41 : decode cX0_tells 41 = .ok (.ireturn, 1) := by decide +kernel
theorem dX0_tells_42 : decode cX0_tells 42 = .ok (.aload_n 0, 1) := by decide +kernel
theorem dX0_tells_43 : decode cX0_tells 43 = .ok (.aload_n 0, 1) := by decide +kernel
theorem dX0_tells_44 : decode cX0_tells 44 = .ok (.getfield 9, 3) := by decide +kernel
theorem dX0_tells_47 : decode cX0_tells 47 = .ok (.iload_n 1, 1) := by decide +kernel
theorem dX0_tells_48 : decode cX0_tells 48 = .ok (.iaload, 1) := by decide +kernel
theorem dX0_tells_49 : decode cX0_tells 49 = .ok (.iload_n 1, 1) := by decide +kernel
theorem dX0_tells_50 : decode cX0_tells 50 = .ok (.iconst 1, 1) := by decide +kernel
theorem dX0_tells_51 : decode cX0_tells 51 = .ok (.invokevirtual 68, 3) := by decide +kernel
theorem dX0_tells_54 : decode cX0_tells 54 = .ok (.aload_n 0, 1) := by decide +kernel
theorem dX0_tells_55 : decode cX0_tells 55 = .ok (.aload_n 0, 1) := by decide +kernel
theorem dX0_tells_56 : decode cX0_tells 56 = .ok (.getfield 9, 3) := by decide +kernel
theorem dX0_tells_59 : decode cX0_tells 59 = .ok (.iload_n 1, 1) := by decide +kernel
theorem dX0_tells_60 : decode cX0_tells 60 = .ok (.iaload, 1) := by decide +kernel
theorem dX0_tells_61 : decode cX0_tells 61 = .ok (.iload_n 1, 1) := by decide +kernel
theorem dX0_tells_62 : decode cX0_tells 62 = .ok (.iconst 0, 1) := by decide +kernel
theorem dX0_tells_63 : decode cX0_tells 63 = .ok (.invokevirtual 68, 3) := by decide +kernel
theorem dX0_tells_66 : decode cX0_tells 66 = .ok (.if_icmp .ne 7, 3) := by decide +kernel
theorem dX0_tells_69 : decode cX0_tells 69 = .ok (.iconst 1, 1) := by decide +kernel
theorem dX0_tells_70 : decode cX0_tells 70 = .ok (.goto 4, 3) := by decide +kernel
theorem dX0_tells_73 : decode cX0_tells 73 = .ok (.iconst 0, 1) := by decide +kernel
theorem dX0_tells_74 : decode cX0_tells 74 = .ok (.ireturn, 1) := by decide +kernel
theorem dX0_tells_75 : decode cX0_tells 75 = .ok (.iconst 2, 1) := by decide +kernel
theorem dX0_tells_76 : decode cX0_tells 76 = .ok (.aload_n 0, 1) := by decide +kernel
theorem dX0_tells_77 : decode cX0_tells 77 = .ok (.getfield 15, 3) := by decide +kernel
theorem dX0_tells_80 : decode cX0_tells 80 = .ok (.iload_n 1, 1) := by decide +kernel
theorem dX0_tells_81 : decode cX0_tells 81 = .ok (.iaload, 1) := by decide +kernel
theorem dX0_tells_82 : decode cX0_tells 82 = .ok (.imul, 1) := by decide +kernel
theorem dX0_tells_83 : decode cX0_tells 83 = .ok (.ireturn, 1) := by decide +kernel
theorem dX0_tells_84 : decode cX0_tells 84 = .ok (.aload_n 0, 1) := by decide +kernel
theorem dX0_tells_85 : decode cX0_tells 85 = .ok (.iconst 4, 1) := by decide +kernel
theorem dX0_tells_86 : decode cX0_tells 86 = .ok (.iload_n 1, 1) := by decide +kernel
theorem dX0_tells_87 : decode cX0_tells 87 = .ok (.iload_n 3, 1) := by decide +kernel
theorem dX0_tells_88 : decode cX0_tells 88 = .ok (.invokevirtual 68, 3) := by decide +kernel
theorem dX0_tells_91 : decode cX0_tells 91 = .ok (.aload_n 0, 1) := by decide +kernel
theorem dX0_tells_92 : decode cX0_tells 92 = .ok (.iconst 1, 1) := by decide +kernel
theorem dX0_tells_93 : decode cX0_tells 93 = .ok (.iload_n 1, 1) := by decide +kernel
theorem dX0_tells_94 : decode cX0_tells 94 = .ok (.iload_n 3, 1) := by decide +kernel
theorem dX0_tells_95 : decode cX0_tells 95 = .ok (.invokevirtual 68, 3) := by decide +kernel
theorem dX0_tells_98 : decode cX0_tells 98 = .ok (.if_icmp .eq 7, 3) := by decide +kernel
theorem dX0_tells_101 : decode cX0_tells 101 = .ok (.iconst 1, 1) := by decide +kernel
theorem dX0_tells_102 : decode cX0_tells 102 = .ok (.goto 4, 3) := by decide +kernel
theorem dX0_tells_105 : decode cX0_tells 105 = .ok (.iconst 0, 1) := by decide +kernel
theorem dX0_tells_106 : decode cX0_tells 106 = .ok (.ireturn, 1) := by decide +kernel
theorem dX0_tells_107 : decode cX0_tells 107 = .ok (.aload_n 0, 1) := by decide +kernel
theorem dX0_tells_108 : decode cX0_tells 108 = .ok (.iconst 5, 1) := by decide +kernel
theorem dX0_tells_109 : decode cX0_tells 109 = .ok (.iload_n 1, 1) := by decide +kernel
theorem dX0_tells_110 : decode cX0_tells 110 = .ok (.iload_n 3, 1) := by decide +kernel
theorem dX0_tells_111 : decode cX0_tells 111 = .ok (.invokevirtual 68, 3) := by decide +kernel
theorem dX0_tells_114 : decode cX0_tells 114 = .ok (.aload_n 0, 1) := by decide +kernel
theorem dX0_tells_115 : decode cX0_tells 115 = .ok (.iconst 2, 1) := by decide +kernel
theorem dX0_tells_116 : decode cX0_tells 116 = .ok (.iload_n 1, 1) := by decide +kernel
theorem dX0_tells_117 : decode cX0_tells 117 = .ok (.iload_n 3, 1) := by decide +kernel
theorem dX0_tells_118 : decode cX0_tells 118 = .ok (.invokevirtual 68, 3) := by decide +kernel
theorem dX0_tells_121 : decode cX0_tells 121 = .ok (.if_icmp .eq 7, 3) := by decide +kernel
theorem dX0_tells_124 : decode cX0_tells 124 = .ok (.iconst 1, 1) := by decide +kernel
theorem dX0_tells_125 : decode cX0_tells 125 = .ok (.goto 4, 3) := by decide +kernel
theorem dX0_tells_128 : decode cX0_tells 128 = .ok (.iconst 0, 1) := by decide +kernel
theorem dX0_tells_129 : decode cX0_tells 129 = .ok (.ireturn, 1) := by decide +kernel
theorem dX0_fact_0 : decode cX0_fact 0 = .ok (.iload_n 2, 1) := by decide +kernel
theorem dX0_fact_1 : decode cX0_fact 1 = .ok (.tableswitch 88 0 5 #[39, 46, 53, 60, 67, 74], 39) := by decide +kernel
theorem dX0_fact_40 : decode cX0_fact 40 = .ok (.aload_n 0, 1) := by decide +kernel
theorem dX0_fact_41 : decode cX0_fact 41 = .ok (.getfield 9, 3) := by decide +kernel
theorem dX0_fact_44 : decode cX0_fact 44 = .ok (.iload_n 1, 1) := by decide +kernel
theorem dX0_fact_45 : decode cX0_fact 45 = .ok (.iaload, 1) := by decide +kernel
theorem dX0_fact_46 : decode cX0_fact 46 = .ok (.ireturn, 1) := by decide +kernel
theorem dX0_fact_47 : decode cX0_fact 47 = .ok (.aload_n 0, 1) := by decide +kernel
theorem dX0_fact_48 : decode cX0_fact 48 = .ok (.getfield 15, 3) := by decide +kernel
theorem dX0_fact_51 : decode cX0_fact 51 = .ok (.iload_n 1, 1) := by decide +kernel
theorem dX0_fact_52 : decode cX0_fact 52 = .ok (.iaload, 1) := by decide +kernel
theorem dX0_fact_53 : decode cX0_fact 53 = .ok (.ireturn, 1) := by decide +kernel
theorem dX0_fact_54 : decode cX0_fact 54 = .ok (.aload_n 0, 1) := by decide +kernel
theorem dX0_fact_55 : decode cX0_fact 55 = .ok (.getfield 18, 3) := by decide +kernel
theorem dX0_fact_58 : decode cX0_fact 58 = .ok (.iload_n 1, 1) := by decide +kernel
theorem dX0_fact_59 : decode cX0_fact 59 = .ok (.iaload, 1) := by decide +kernel
theorem dX0_fact_60 : decode cX0_fact 60 = .ok (.ireturn, 1) := by decide +kernel
theorem dX0_fact_61 : decode cX0_fact 61 = .ok (.aload_n 0, 1) := by decide +kernel
theorem dX0_fact_62 : decode cX0_fact 62 = .ok (.getfield 21, 3) := by decide +kernel
theorem dX0_fact_65 : decode cX0_fact 65 = .ok (.iload_n 1, 1) := by decide +kernel
theorem dX0_fact_66 : decode cX0_fact 66 = .ok (.iaload, 1) := by decide +kernel
theorem dX0_fact_67 : decode cX0_fact 67 = .ok (.ireturn, 1) := by decide +kernel
theorem dX0_fact_68 : decode cX0_fact 68 = .ok (.aload_n 0, 1) := by decide +kernel
theorem dX0_fact_69 : decode cX0_fact 69 = .ok (.getfield 24, 3) := by decide +kernel
theorem dX0_fact_72 : decode cX0_fact 72 = .ok (.iload_n 1, 1) := by decide +kernel
theorem dX0_fact_73 : decode cX0_fact 73 = .ok (.iaload, 1) := by decide +kernel
theorem dX0_fact_74 : decode cX0_fact 74 = .ok (.ireturn, 1) := by decide +kernel
theorem dX0_fact_75 : decode cX0_fact 75 = .ok (.aload_n 0, 1) := by decide +kernel
theorem dX0_fact_76 : decode cX0_fact 76 = .ok (.iload_n 1, 1) := by decide +kernel
theorem dX0_fact_77 : decode cX0_fact 77 = .ok (.invokevirtual 65, 3) := by decide +kernel
theorem dX0_fact_80 : decode cX0_fact 80 = .ok (.ifCond .eq 7, 3) := by decide +kernel
theorem dX0_fact_83 : decode cX0_fact 83 = .ok (.iconst 1, 1) := by decide +kernel
theorem dX0_fact_84 : decode cX0_fact 84 = .ok (.goto 4, 3) := by decide +kernel
theorem dX0_fact_87 : decode cX0_fact 87 = .ok (.iconst 0, 1) := by decide +kernel
theorem dX0_fact_88 : decode cX0_fact 88 = .ok (.ireturn, 1) := by decide +kernel
theorem dX0_fact_89 : decode cX0_fact 89 = .ok (.aload_n 0, 1) := by decide +kernel
theorem dX0_fact_90 : decode cX0_fact 90 = .ok (.aload_n 0, 1) := by decide +kernel
theorem dX0_fact_91 : decode cX0_fact 91 = .ok (.getfield 9, 3) := by decide +kernel
theorem dX0_fact_94 : decode cX0_fact 94 = .ok (.iload_n 1, 1) := by decide +kernel
theorem dX0_fact_95 : decode cX0_fact 95 = .ok (.iaload, 1) := by decide +kernel
theorem dX0_fact_96 : decode cX0_fact 96 = .ok (.iload_n 1, 1) := by decide +kernel
theorem dX0_fact_97 : decode cX0_fact 97 = .ok (.aload_n 0, 1) := by decide +kernel
theorem dX0_fact_98 : decode cX0_fact 98 = .ok (.iload_n 1, 1) := by decide +kernel
theorem dX0_fact_99 : decode cX0_fact 99 = .ok (.invokevirtual 78, 3) := by decide +kernel
theorem dX0_fact_102 : decode cX0_fact 102 = .ok (.invokevirtual 68, 3) := by decide +kernel
theorem dX0_fact_105 : decode cX0_fact 105 = .ok (.ireturn, 1) := by decide +kernel
theorem dX0_pulses_0 : decode cX0_pulses 0 = .ok (.iconst 0, 1) := by decide +kernel
theorem dX0_pulses_1 : decode cX0_pulses 1 = .ok (.istore_n 1, 1) := by decide +kernel
theorem dX0_pulses_2 : decode cX0_pulses 2 = .ok (.iconst 0, 1) := by decide +kernel
theorem dX0_pulses_3 : decode cX0_pulses 3 = .ok (.istore_n 2, 1) := by decide +kernel
theorem dX0_pulses_4 : decode cX0_pulses 4 = .ok (.iload_n 2, 1) := by decide +kernel
theorem dX0_pulses_5 : decode cX0_pulses 5 = .ok (.aload_n 0, 1) := by decide +kernel
theorem dX0_pulses_6 : decode cX0_pulses 6 = .ok (.getfield 30, 3) := by decide +kernel
theorem dX0_pulses_9 : decode cX0_pulses 9 = .ok (.if_icmp .ge 21, 3) := by decide +kernel
theorem dX0_pulses_12 : decode cX0_pulses 12 = .ok (.iload_n 1, 1) := by decide +kernel
theorem dX0_pulses_13 : decode cX0_pulses 13 = .ok (.aload_n 0, 1) := by decide +kernel
theorem dX0_pulses_14 : decode cX0_pulses 14 = .ok (.getfield 21, 3) := by decide +kernel
theorem dX0_pulses_17 : decode cX0_pulses 17 = .ok (.iload_n 2, 1) := by decide +kernel
theorem dX0_pulses_18 : decode cX0_pulses 18 = .ok (.iaload, 1) := by decide +kernel
theorem dX0_pulses_19 : decode cX0_pulses 19 = .ok (.invokestatic 81, 3) := by decide +kernel
theorem dX0_pulses_22 : decode cX0_pulses 22 = .ok (.iadd, 1) := by decide +kernel
theorem dX0_pulses_23 : decode cX0_pulses 23 = .ok (.istore_n 1, 1) := by decide +kernel
theorem dX0_pulses_24 : decode cX0_pulses 24 = .ok (.iinc 2 1, 3) := by decide +kernel
theorem dX0_pulses_27 : decode cX0_pulses 27 = .ok (.goto (-23), 3) := by decide +kernel
theorem dX0_pulses_30 : decode cX0_pulses 30 = .ok (.iload_n 1, 1) := by decide +kernel
theorem dX0_pulses_31 : decode cX0_pulses 31 = .ok (.ireturn, 1) := by decide +kernel
theorem dX0_slots_0 : decode cX0_slots 0 = .ok (.iconst 0, 1) := by decide +kernel
theorem dX0_slots_1 : decode cX0_slots 1 = .ok (.istore_n 1, 1) := by decide +kernel
theorem dX0_slots_2 : decode cX0_slots 2 = .ok (.iconst 0, 1) := by decide +kernel
theorem dX0_slots_3 : decode cX0_slots 3 = .ok (.istore_n 2, 1) := by decide +kernel
theorem dX0_slots_4 : decode cX0_slots 4 = .ok (.iload_n 2, 1) := by decide +kernel
theorem dX0_slots_5 : decode cX0_slots 5 = .ok (.aload_n 0, 1) := by decide +kernel
theorem dX0_slots_6 : decode cX0_slots 6 = .ok (.getfield 30, 3) := by decide +kernel
theorem dX0_slots_9 : decode cX0_slots 9 = .ok (.if_icmp .ge 18, 3) := by decide +kernel
theorem dX0_slots_12 : decode cX0_slots 12 = .ok (.iload_n 1, 1) := by decide +kernel
theorem dX0_slots_13 : decode cX0_slots 13 = .ok (.aload_n 0, 1) := by decide +kernel
theorem dX0_slots_14 : decode cX0_slots 14 = .ok (.getfield 15, 3) := by decide +kernel
theorem dX0_slots_17 : decode cX0_slots 17 = .ok (.iload_n 2, 1) := by decide +kernel
theorem dX0_slots_18 : decode cX0_slots 18 = .ok (.iaload, 1) := by decide +kernel
theorem dX0_slots_19 : decode cX0_slots 19 = .ok (.iadd, 1) := by decide +kernel
theorem dX0_slots_20 : decode cX0_slots 20 = .ok (.istore_n 1, 1) := by decide +kernel
theorem dX0_slots_21 : decode cX0_slots 21 = .ok (.iinc 2 1, 3) := by decide +kernel
theorem dX0_slots_24 : decode cX0_slots 24 = .ok (.goto (-20), 3) := by decide +kernel
theorem dX0_slots_27 : decode cX0_slots 27 = .ok (.iload_n 1, 1) := by decide +kernel
theorem dX0_slots_28 : decode cX0_slots 28 = .ok (.ireturn, 1) := by decide +kernel
theorem dX0_emptyOnes_0 : decode cX0_emptyOnes 0 = .ok (.iconst 0, 1) := by decide +kernel
theorem dX0_emptyOnes_1 : decode cX0_emptyOnes 1 = .ok (.istore_n 1, 1) := by decide +kernel
theorem dX0_emptyOnes_2 : decode cX0_emptyOnes 2 = .ok (.iconst 0, 1) := by decide +kernel
theorem dX0_emptyOnes_3 : decode cX0_emptyOnes 3 = .ok (.istore_n 2, 1) := by decide +kernel
theorem dX0_emptyOnes_4 : decode cX0_emptyOnes 4 = .ok (.iload_n 2, 1) := by decide +kernel
theorem dX0_emptyOnes_5 : decode cX0_emptyOnes 5 = .ok (.aload_n 0, 1) := by decide +kernel
theorem dX0_emptyOnes_6 : decode cX0_emptyOnes 6 = .ok (.getfield 30, 3) := by decide +kernel
theorem dX0_emptyOnes_9 : decode cX0_emptyOnes 9 = .ok (.if_icmp .ge 24, 3) := by decide +kernel
theorem dX0_emptyOnes_12 : decode cX0_emptyOnes 12 = .ok (.aload_n 0, 1) := by decide +kernel
theorem dX0_emptyOnes_13 : decode cX0_emptyOnes 13 = .ok (.getfield 21, 3) := by decide +kernel
theorem dX0_emptyOnes_16 : decode cX0_emptyOnes 16 = .ok (.iload_n 2, 1) := by decide +kernel
theorem dX0_emptyOnes_17 : decode cX0_emptyOnes 17 = .ok (.iaload, 1) := by decide +kernel
theorem dX0_emptyOnes_18 : decode cX0_emptyOnes 18 = .ok (.ifCond .ne 9, 3) := by decide +kernel
theorem dX0_emptyOnes_21 : decode cX0_emptyOnes 21 = .ok (.iload_n 1, 1) := by decide +kernel
theorem dX0_emptyOnes_22 : decode cX0_emptyOnes 22 = .ok (.iconst 1, 1) := by decide +kernel
theorem dX0_emptyOnes_23 : decode cX0_emptyOnes 23 = .ok (.iload_n 2, 1) := by decide +kernel
theorem dX0_emptyOnes_24 : decode cX0_emptyOnes 24 = .ok (.ishl, 1) := by decide +kernel
theorem dX0_emptyOnes_25 : decode cX0_emptyOnes 25 = .ok (.ior, 1) := by decide +kernel
theorem dX0_emptyOnes_26 : decode cX0_emptyOnes 26 = .ok (.istore_n 1, 1) := by decide +kernel
theorem dX0_emptyOnes_27 : decode cX0_emptyOnes 27 = .ok (.iinc 2 1, 3) := by decide +kernel
theorem dX0_emptyOnes_30 : decode cX0_emptyOnes 30 = .ok (.goto (-26), 3) := by decide +kernel
theorem dX0_emptyOnes_33 : decode cX0_emptyOnes 33 = .ok (.iload_n 1, 1) := by decide +kernel
theorem dX0_emptyOnes_34 : decode cX0_emptyOnes 34 = .ok (.ireturn, 1) := by decide +kernel
theorem dX0_ends_0 : decode cX0_ends 0 = .ok (.iconst 0, 1) := by decide +kernel
theorem dX0_ends_1 : decode cX0_ends 1 = .ok (.istore_n 1, 1) := by decide +kernel
theorem dX0_ends_2 : decode cX0_ends 2 = .ok (.iconst 0, 1) := by decide +kernel
theorem dX0_ends_3 : decode cX0_ends 3 = .ok (.istore_n 2, 1) := by decide +kernel
theorem dX0_ends_4 : decode cX0_ends 4 = .ok (.iload_n 2, 1) := by decide +kernel
theorem dX0_ends_5 : decode cX0_ends 5 = .ok (.aload_n 0, 1) := by decide +kernel
theorem dX0_ends_6 : decode cX0_ends 6 = .ok (.getfield 30, 3) := by decide +kernel
theorem dX0_ends_9 : decode cX0_ends 9 = .ok (.if_icmp .ge 22, 3) := by decide +kernel
theorem dX0_ends_12 : decode cX0_ends 12 = .ok (.iload_n 1, 1) := by decide +kernel
theorem dX0_ends_13 : decode cX0_ends 13 = .ok (.aload_n 0, 1) := by decide +kernel
theorem dX0_ends_14 : decode cX0_ends 14 = .ok (.getfield 21, 3) := by decide +kernel
theorem dX0_ends_17 : decode cX0_ends 17 = .ok (.iload_n 2, 1) := by decide +kernel
theorem dX0_ends_18 : decode cX0_ends 18 = .ok (.iaload, 1) := by decide +kernel
theorem dX0_ends_19 : decode cX0_ends 19 = .ok (.iconst 1, 1) := by decide +kernel
theorem dX0_ends_20 : decode cX0_ends 20 = .ok (.iand, 1) := by decide +kernel
theorem dX0_ends_21 : decode cX0_ends 21 = .ok (.iload_n 2, 1) := by decide +kernel
theorem dX0_ends_22 : decode cX0_ends 22 = .ok (.ishl, 1) := by decide +kernel
theorem dX0_ends_23 : decode cX0_ends 23 = .ok (.ior, 1) := by decide +kernel
theorem dX0_ends_24 : decode cX0_ends 24 = .ok (.istore_n 1, 1) := by decide +kernel
theorem dX0_ends_25 : decode cX0_ends 25 = .ok (.iinc 2 1, 3) := by decide +kernel
theorem dX0_ends_28 : decode cX0_ends 28 = .ok (.goto (-24), 3) := by decide +kernel
theorem dX0_ends_31 : decode cX0_ends 31 = .ok (.iload_n 1, 1) := by decide +kernel
theorem dX0_ends_32 : decode cX0_ends 32 = .ok (.ireturn, 1) := by decide +kernel
theorem dX0_manyOf_0 : decode cX0_manyOf 0 = .ok (.iconst 0, 1) := by decide +kernel
theorem dX0_manyOf_1 : decode cX0_manyOf 1 = .ok (.istore_n 2, 1) := by decide +kernel
theorem dX0_manyOf_2 : decode cX0_manyOf 2 = .ok (.iconst 0, 1) := by decide +kernel
theorem dX0_manyOf_3 : decode cX0_manyOf 3 = .ok (.istore_n 3, 1) := by decide +kernel
theorem dX0_manyOf_4 : decode cX0_manyOf 4 = .ok (.iload_n 3, 1) := by decide +kernel
theorem dX0_manyOf_5 : decode cX0_manyOf 5 = .ok (.aload_n 0, 1) := by decide +kernel
theorem dX0_manyOf_6 : decode cX0_manyOf 6 = .ok (.getfield 30, 3) := by decide +kernel
theorem dX0_manyOf_9 : decode cX0_manyOf 9 = .ok (.if_icmp .ge 21, 3) := by decide +kernel
theorem dX0_manyOf_12 : decode cX0_manyOf 12 = .ok (.aload_n 0, 1) := by decide +kernel
theorem dX0_manyOf_13 : decode cX0_manyOf 13 = .ok (.iload_n 3, 1) := by decide +kernel
theorem dX0_manyOf_14 : decode cX0_manyOf 14 = .ok (.iload_n 1, 1) := by decide +kernel
theorem dX0_manyOf_15 : decode cX0_manyOf 15 = .ok (.invokevirtual 86, 3) := by decide +kernel
theorem dX0_manyOf_18 : decode cX0_manyOf 18 = .ok (.ifCond .eq 6, 3) := by decide +kernel
theorem dX0_manyOf_21 : decode cX0_manyOf 21 = .ok (.iinc 2 1, 3) := by decide +kernel
theorem dX0_manyOf_24 : decode cX0_manyOf 24 = .ok (.iinc 3 1, 3) := by decide +kernel
theorem dX0_manyOf_27 : decode cX0_manyOf 27 = .ok (.goto (-23), 3) := by decide +kernel
theorem dX0_manyOf_30 : decode cX0_manyOf 30 = .ok (.iload_n 2, 1) := by decide +kernel
theorem dX0_manyOf_31 : decode cX0_manyOf 31 = .ok (.ireturn, 1) := by decide +kernel
theorem dX0_hasWordsOf_0 : decode cX0_hasWordsOf 0 = .ok (.iconst 0, 1) := by decide +kernel
theorem dX0_hasWordsOf_1 : decode cX0_hasWordsOf 1 = .ok (.istore_n 2, 1) := by decide +kernel
theorem dX0_hasWordsOf_2 : decode cX0_hasWordsOf 2 = .ok (.iload_n 2, 1) := by decide +kernel
theorem dX0_hasWordsOf_3 : decode cX0_hasWordsOf 3 = .ok (.aload_n 0, 1) := by decide +kernel
theorem dX0_hasWordsOf_4 : decode cX0_hasWordsOf 4 = .ok (.getfield 30, 3) := by decide +kernel
theorem dX0_hasWordsOf_7 : decode cX0_hasWordsOf 7 = .ok (.if_icmp .ge 26, 3) := by decide +kernel
theorem dX0_hasWordsOf_10 : decode cX0_hasWordsOf 10 = .ok (.aload_n 0, 1) := by decide +kernel
theorem dX0_hasWordsOf_11 : decode cX0_hasWordsOf 11 = .ok (.getfield 21, 3) := by decide +kernel
theorem dX0_hasWordsOf_14 : decode cX0_hasWordsOf 14 = .ok (.iload_n 2, 1) := by decide +kernel
theorem dX0_hasWordsOf_15 : decode cX0_hasWordsOf 15 = .ok (.iaload, 1) := by decide +kernel
theorem dX0_hasWordsOf_16 : decode cX0_hasWordsOf 16 = .ok (.aload_n 1, 1) := by decide +kernel
theorem dX0_hasWordsOf_17 : decode cX0_hasWordsOf 17 = .ok (.getfield 21, 3) := by decide +kernel
theorem dX0_hasWordsOf_20 : decode cX0_hasWordsOf 20 = .ok (.iload_n 2, 1) := by decide +kernel
theorem dX0_hasWordsOf_21 : decode cX0_hasWordsOf 21 = .ok (.iaload, 1) := by decide +kernel
theorem dX0_hasWordsOf_22 : decode cX0_hasWordsOf 22 = .ok (.if_icmp .eq 5, 3) := by decide +kernel
theorem dX0_hasWordsOf_25 : decode cX0_hasWordsOf 25 = .ok (.iconst 0, 1) := by decide +kernel
theorem dX0_hasWordsOf_26 : decode cX0_hasWordsOf 26 = .ok (.ireturn, 1) := by decide +kernel
theorem dX0_hasWordsOf_27 : decode cX0_hasWordsOf 27 = .ok (.iinc 2 1, 3) := by decide +kernel
theorem dX0_hasWordsOf_30 : decode cX0_hasWordsOf 30 = .ok (.goto (-28), 3) := by decide +kernel
theorem dX0_hasWordsOf_33 : decode cX0_hasWordsOf 33 = .ok (.iconst 1, 1) := by decide +kernel
theorem dX0_hasWordsOf_34 : decode cX0_hasWordsOf 34 = .ok (.ireturn, 1) := by decide +kernel
theorem dJ6_bitCount_0f7a4_0 : decode cJ6_bitCount_0f7a4 0 = .ok (.iload_n 0, 1) := by decide +kernel
theorem dJ6_bitCount_0f7a4_1 : decode cJ6_bitCount_0f7a4 1 = .ok (.iload_n 0, 1) := by decide +kernel
theorem dJ6_bitCount_0f7a4_2 : decode cJ6_bitCount_0f7a4 2 = .ok (.iconst 1, 1) := by decide +kernel
theorem dJ6_bitCount_0f7a4_3 : decode cJ6_bitCount_0f7a4 3 = .ok (.iushr, 1) := by decide +kernel
theorem dJ6_bitCount_0f7a4_4 : decode cJ6_bitCount_0f7a4 4 = .ok (.ldc_w 265, 3) := by decide +kernel
theorem dJ6_bitCount_0f7a4_7 : decode cJ6_bitCount_0f7a4 7 = .ok (.iand, 1) := by decide +kernel
theorem dJ6_bitCount_0f7a4_8 : decode cJ6_bitCount_0f7a4 8 = .ok (.isub, 1) := by decide +kernel
theorem dJ6_bitCount_0f7a4_9 : decode cJ6_bitCount_0f7a4 9 = .ok (.istore_n 0, 1) := by decide +kernel
theorem dJ6_bitCount_0f7a4_10 : decode cJ6_bitCount_0f7a4 10 = .ok (.iload_n 0, 1) := by decide +kernel
theorem dJ6_bitCount_0f7a4_11 : decode cJ6_bitCount_0f7a4 11 = .ok (.ldc_w 266, 3) := by decide +kernel
theorem dJ6_bitCount_0f7a4_14 : decode cJ6_bitCount_0f7a4 14 = .ok (.iand, 1) := by decide +kernel
theorem dJ6_bitCount_0f7a4_15 : decode cJ6_bitCount_0f7a4 15 = .ok (.iload_n 0, 1) := by decide +kernel
theorem dJ6_bitCount_0f7a4_16 : decode cJ6_bitCount_0f7a4 16 = .ok (.iconst 2, 1) := by decide +kernel
theorem dJ6_bitCount_0f7a4_17 : decode cJ6_bitCount_0f7a4 17 = .ok (.iushr, 1) := by decide +kernel
theorem dJ6_bitCount_0f7a4_18 : decode cJ6_bitCount_0f7a4 18 = .ok (.ldc_w 266, 3) := by decide +kernel
theorem dJ6_bitCount_0f7a4_21 : decode cJ6_bitCount_0f7a4 21 = .ok (.iand, 1) := by decide +kernel
theorem dJ6_bitCount_0f7a4_22 : decode cJ6_bitCount_0f7a4 22 = .ok (.iadd, 1) := by decide +kernel
theorem dJ6_bitCount_0f7a4_23 : decode cJ6_bitCount_0f7a4 23 = .ok (.istore_n 0, 1) := by decide +kernel
theorem dJ6_bitCount_0f7a4_24 : decode cJ6_bitCount_0f7a4 24 = .ok (.iload_n 0, 1) := by decide +kernel
theorem dJ6_bitCount_0f7a4_25 : decode cJ6_bitCount_0f7a4 25 = .ok (.iload_n 0, 1) := by decide +kernel
theorem dJ6_bitCount_0f7a4_26 : decode cJ6_bitCount_0f7a4 26 = .ok (.iconst 4, 1) := by decide +kernel
theorem dJ6_bitCount_0f7a4_27 : decode cJ6_bitCount_0f7a4 27 = .ok (.iushr, 1) := by decide +kernel
theorem dJ6_bitCount_0f7a4_28 : decode cJ6_bitCount_0f7a4 28 = .ok (.iadd, 1) := by decide +kernel
theorem dJ6_bitCount_0f7a4_29 : decode cJ6_bitCount_0f7a4 29 = .ok (.ldc_w 267, 3) := by decide +kernel
theorem dJ6_bitCount_0f7a4_32 : decode cJ6_bitCount_0f7a4 32 = .ok (.iand, 1) := by decide +kernel
theorem dJ6_bitCount_0f7a4_33 : decode cJ6_bitCount_0f7a4 33 = .ok (.istore_n 0, 1) := by decide +kernel
theorem dJ6_bitCount_0f7a4_34 : decode cJ6_bitCount_0f7a4 34 = .ok (.iload_n 0, 1) := by decide +kernel
theorem dJ6_bitCount_0f7a4_35 : decode cJ6_bitCount_0f7a4 35 = .ok (.iload_n 0, 1) := by decide +kernel
theorem dJ6_bitCount_0f7a4_36 : decode cJ6_bitCount_0f7a4 36 = .ok (.bipush 8, 2) := by decide +kernel
theorem dJ6_bitCount_0f7a4_38 : decode cJ6_bitCount_0f7a4 38 = .ok (.iushr, 1) := by decide +kernel
theorem dJ6_bitCount_0f7a4_39 : decode cJ6_bitCount_0f7a4 39 = .ok (.iadd, 1) := by decide +kernel
theorem dJ6_bitCount_0f7a4_40 : decode cJ6_bitCount_0f7a4 40 = .ok (.istore_n 0, 1) := by decide +kernel
theorem dJ6_bitCount_0f7a4_41 : decode cJ6_bitCount_0f7a4 41 = .ok (.iload_n 0, 1) := by decide +kernel
theorem dJ6_bitCount_0f7a4_42 : decode cJ6_bitCount_0f7a4 42 = .ok (.iload_n 0, 1) := by decide +kernel
theorem dJ6_bitCount_0f7a4_43 : decode cJ6_bitCount_0f7a4 43 = .ok (.bipush 16, 2) := by decide +kernel
theorem dJ6_bitCount_0f7a4_45 : decode cJ6_bitCount_0f7a4 45 = .ok (.iushr, 1) := by decide +kernel
theorem dJ6_bitCount_0f7a4_46 : decode cJ6_bitCount_0f7a4 46 = .ok (.iadd, 1) := by decide +kernel
theorem dJ6_bitCount_0f7a4_47 : decode cJ6_bitCount_0f7a4 47 = .ok (.istore_n 0, 1) := by decide +kernel
theorem dJ6_bitCount_0f7a4_48 : decode cJ6_bitCount_0f7a4 48 = .ok (.iload_n 0, 1) := by decide +kernel
theorem dJ6_bitCount_0f7a4_49 : decode cJ6_bitCount_0f7a4 49 = .ok (.bipush 63, 2) := by decide +kernel
theorem dJ6_bitCount_0f7a4_51 : decode cJ6_bitCount_0f7a4 51 = .ok (.iand, 1) := by decide +kernel
theorem dJ6_bitCount_0f7a4_52 : decode cJ6_bitCount_0f7a4 52 = .ok (.ireturn, 1) := by decide +kernel
end
section
theorem dX1_init_0 : decode cX1_init 0 = .ok (.aload_n 0, 1) := by decide +kernel
theorem dX1_init_1 : decode cX1_init 1 = .ok (.invokespecial 1, 3) := by decide +kernel
theorem dX1_init_4 : decode cX1_init 4 = .ok (.aload_n 0, 1) := by decide +kernel
theorem dX1_init_5 : decode cX1_init 5 = .ok (.bipush 6, 2) := by decide +kernel
theorem dX1_init_7 : decode cX1_init 7 = .ok (.bipush 40, 2) := by decide +kernel
theorem dX1_init_9 : decode cX1_init 9 = .ok (.multianewarray 9 2, 4) := by decide +kernel
theorem dX1_init_13 : decode cX1_init 13 = .ok (.putfield 11, 3) := by decide +kernel
theorem dX1_init_16 : decode cX1_init 16 = .ok (.aload_n 0, 1) := by decide +kernel
theorem dX1_init_17 : decode cX1_init 17 = .ok (.bipush 6, 2) := by decide +kernel
theorem dX1_init_19 : decode cX1_init 19 = .ok (.newarray .int, 2) := by decide +kernel
theorem dX1_init_21 : decode cX1_init 21 = .ok (.dup, 1) := by decide +kernel
theorem dX1_init_22 : decode cX1_init 22 = .ok (.iconst 0, 1) := by decide +kernel
theorem dX1_init_23 : decode cX1_init 23 = .ok (.iconst (-1), 1) := by decide +kernel
theorem dX1_init_24 : decode cX1_init 24 = .ok (.iastore, 1) := by decide +kernel
theorem dX1_init_25 : decode cX1_init 25 = .ok (.dup, 1) := by decide +kernel
theorem dX1_init_26 : decode cX1_init 26 = .ok (.iconst 1, 1) := by decide +kernel
theorem dX1_init_27 : decode cX1_init 27 = .ok (.iconst (-1), 1) := by decide +kernel
theorem dX1_init_28 : decode cX1_init 28 = .ok (.iastore, 1) := by decide +kernel
theorem dX1_init_29 : decode cX1_init 29 = .ok (.dup, 1) := by decide +kernel
theorem dX1_init_30 : decode cX1_init 30 = .ok (.iconst 2, 1) := by decide +kernel
theorem dX1_init_31 : decode cX1_init 31 = .ok (.iconst (-1), 1) := by decide +kernel
theorem dX1_init_32 : decode cX1_init 32 = .ok (.iastore, 1) := by decide +kernel
theorem dX1_init_33 : decode cX1_init 33 = .ok (.dup, 1) := by decide +kernel
theorem dX1_init_34 : decode cX1_init 34 = .ok (.iconst 3, 1) := by decide +kernel
theorem dX1_init_35 : decode cX1_init 35 = .ok (.iconst (-1), 1) := by decide +kernel
theorem dX1_init_36 : decode cX1_init 36 = .ok (.iastore, 1) := by decide +kernel
theorem dX1_init_37 : decode cX1_init 37 = .ok (.dup, 1) := by decide +kernel
theorem dX1_init_38 : decode cX1_init 38 = .ok (.iconst 4, 1) := by decide +kernel
theorem dX1_init_39 : decode cX1_init 39 = .ok (.iconst (-1), 1) := by decide +kernel
theorem dX1_init_40 : decode cX1_init 40 = .ok (.iastore, 1) := by decide +kernel
theorem dX1_init_41 : decode cX1_init 41 = .ok (.dup, 1) := by decide +kernel
theorem dX1_init_42 : decode cX1_init 42 = .ok (.iconst 5, 1) := by decide +kernel
theorem dX1_init_43 : decode cX1_init 43 = .ok (.iconst (-1), 1) := by decide +kernel
theorem dX1_init_44 : decode cX1_init 44 = .ok (.iastore, 1) := by decide +kernel
theorem dX1_init_45 : decode cX1_init 45 = .ok (.putfield 14, 3) := by decide +kernel
theorem dX1_init_48 : decode cX1_init 48 = .ok (.aload_n 0, 1) := by decide +kernel
theorem dX1_init_49 : decode cX1_init 49 = .ok (.iconst 4, 1) := by decide +kernel
theorem dX1_init_50 : decode cX1_init 50 = .ok (.bipush 60, 2) := by decide +kernel
theorem dX1_init_52 : decode cX1_init 52 = .ok (.multianewarray 18 2, 4) := by decide +kernel
theorem dX1_init_56 : decode cX1_init 56 = .ok (.putfield 20, 3) := by decide +kernel
theorem dX1_init_59 : decode cX1_init 59 = .ok (.aload_n 0, 1) := by decide +kernel
theorem dX1_init_60 : decode cX1_init 60 = .ok (.iconst 4, 1) := by decide +kernel
theorem dX1_init_61 : decode cX1_init 61 = .ok (.newarray .int, 2) := by decide +kernel
theorem dX1_init_63 : decode cX1_init 63 = .ok (.dup, 1) := by decide +kernel
theorem dX1_init_64 : decode cX1_init 64 = .ok (.iconst 0, 1) := by decide +kernel
theorem dX1_init_65 : decode cX1_init 65 = .ok (.iconst (-1), 1) := by decide +kernel
theorem dX1_init_66 : decode cX1_init 66 = .ok (.iastore, 1) := by decide +kernel
theorem dX1_init_67 : decode cX1_init 67 = .ok (.dup, 1) := by decide +kernel
theorem dX1_init_68 : decode cX1_init 68 = .ok (.iconst 1, 1) := by decide +kernel
theorem dX1_init_69 : decode cX1_init 69 = .ok (.iconst (-1), 1) := by decide +kernel
theorem dX1_init_70 : decode cX1_init 70 = .ok (.iastore, 1) := by decide +kernel
theorem dX1_init_71 : decode cX1_init 71 = .ok (.dup, 1) := by decide +kernel
theorem dX1_init_72 : decode cX1_init 72 = .ok (.iconst 2, 1) := by decide +kernel
theorem dX1_init_73 : decode cX1_init 73 = .ok (.iconst (-1), 1) := by decide +kernel
theorem dX1_init_74 : decode cX1_init 74 = .ok (.iastore, 1) := by decide +kernel
theorem dX1_init_75 : decode cX1_init 75 = .ok (.dup, 1) := by decide +kernel
theorem dX1_init_76 : decode cX1_init 76 = .ok (.iconst 3, 1) := by decide +kernel
theorem dX1_init_77 : decode cX1_init 77 = .ok (.iconst (-1), 1) := by decide +kernel
theorem dX1_init_78 : decode cX1_init 78 = .ok (.iastore, 1) := by decide +kernel
theorem dX1_init_79 : decode cX1_init 79 = .ok (.putfield 23, 3) := by decide +kernel
theorem dX1_init_82 : decode cX1_init 82 = .ok (.aload_n 0, 1) := by decide +kernel
theorem dX1_init_83 : decode cX1_init 83 = .ok (.new 26, 3) := by decide +kernel
theorem dX1_init_86 : decode cX1_init 86 = .ok (.dup, 1) := by decide +kernel
theorem dX1_init_87 : decode cX1_init 87 = .ok (.invokespecial 28, 3) := by decide +kernel
theorem dX1_init_90 : decode cX1_init 90 = .ok (.putfield 29, 3) := by decide +kernel
theorem dX1_init_93 : decode cX1_init 93 = .ok (.aload_n 0, 1) := by decide +kernel
theorem dX1_init_94 : decode cX1_init 94 = .ok (.new 26, 3) := by decide +kernel
theorem dX1_init_97 : decode cX1_init 97 = .ok (.dup, 1) := by decide +kernel
theorem dX1_init_98 : decode cX1_init 98 = .ok (.invokespecial 28, 3) := by decide +kernel
theorem dX1_init_101 : decode cX1_init 101 = .ok (.putfield 33, 3) := by decide +kernel
theorem dX1_init_104 : decode cX1_init 104 = .ok (.aload_n 0, 1) := by decide +kernel
theorem dX1_init_105 : decode cX1_init 105 = .ok (.bipush 40, 2) := by decide +kernel
theorem dX1_init_107 : decode cX1_init 107 = .ok (.newarray .int, 2) := by decide +kernel
theorem dX1_init_109 : decode cX1_init 109 = .ok (.putfield 36, 3) := by decide +kernel
theorem dX1_init_112 : decode cX1_init 112 = .ok (.aload_n 0, 1) := by decide +kernel
theorem dX1_init_113 : decode cX1_init 113 = .ok (.iconst 0, 1) := by decide +kernel
theorem dX1_init_114 : decode cX1_init 114 = .ok (.putfield 39, 3) := by decide +kernel
theorem dX1_init_117 : decode cX1_init 117 = .ok (.aload_n 0, 1) := by decide +kernel
theorem dX1_init_118 : decode cX1_init 118 = .ok (.iconst 3, 1) := by decide +kernel
theorem dX1_init_119 : decode cX1_init 119 = .ok (.bipush 40, 2) := by decide +kernel
theorem dX1_init_121 : decode cX1_init 121 = .ok (.multianewarray 9 2, 4) := by decide +kernel
theorem dX1_init_125 : decode cX1_init 125 = .ok (.putfield 43, 3) := by decide +kernel
theorem dX1_init_128 : decode cX1_init 128 = .ok (.aload_n 0, 1) := by decide +kernel
theorem dX1_init_129 : decode cX1_init 129 = .ok (.iconst 3, 1) := by decide +kernel
theorem dX1_init_130 : decode cX1_init 130 = .ok (.newarray .int, 2) := by decide +kernel
theorem dX1_init_132 : decode cX1_init 132 = .ok (.dup, 1) := by decide +kernel
theorem dX1_init_133 : decode cX1_init 133 = .ok (.iconst 0, 1) := by decide +kernel
theorem dX1_init_134 : decode cX1_init 134 = .ok (.iconst (-1), 1) := by decide +kernel
theorem dX1_init_135 : decode cX1_init 135 = .ok (.iastore, 1) := by decide +kernel
theorem dX1_init_136 : decode cX1_init 136 = .ok (.dup, 1) := by decide +kernel
theorem dX1_init_137 : decode cX1_init 137 = .ok (.iconst 1, 1) := by decide +kernel
theorem dX1_init_138 : decode cX1_init 138 = .ok (.iconst (-1), 1) := by decide +kernel
theorem dX1_init_139 : decode cX1_init 139 = .ok (.iastore, 1) := by decide +kernel
theorem dX1_init_140 : decode cX1_init 140 = .ok (.dup, 1) := by decide +kernel
theorem dX1_init_141 : decode cX1_init 141 = .ok (.iconst 2, 1) := by decide +kernel
theorem dX1_init_142 : decode cX1_init 142 = .ok (.iconst (-1), 1) := by decide +kernel
theorem dX1_init_143 : decode cX1_init 143 = .ok (.iastore, 1) := by decide +kernel
theorem dX1_init_144 : decode cX1_init 144 = .ok (.putfield 46, 3) := by decide +kernel
theorem dX1_init_147 : decode cX1_init 147 = .ok (.aload_n 0, 1) := by decide +kernel
theorem dX1_init_148 : decode cX1_init 148 = .ok (.bipush 6, 2) := by decide +kernel
theorem dX1_init_150 : decode cX1_init 150 = .ok (.bipush 20, 2) := by decide +kernel
theorem dX1_init_152 : decode cX1_init 152 = .ok (.multianewarray 9 2, 4) := by decide +kernel
theorem dX1_init_156 : decode cX1_init 156 = .ok (.putfield 49, 3) := by decide +kernel
theorem dX1_init_159 : decode cX1_init 159 = .ok (.aload_n 0, 1) := by decide +kernel
theorem dX1_init_160 : decode cX1_init 160 = .ok (.bipush 6, 2) := by decide +kernel
theorem dX1_init_162 : decode cX1_init 162 = .ok (.newarray .int, 2) := by decide +kernel
theorem dX1_init_164 : decode cX1_init 164 = .ok (.putfield 52, 3) := by decide +kernel
theorem dX1_init_167 : decode cX1_init 167 = .ok (.aload_n 0, 1) := by decide +kernel
theorem dX1_init_168 : decode cX1_init 168 = .ok (.iconst 0, 1) := by decide +kernel
theorem dX1_init_169 : decode cX1_init 169 = .ok (.putfield 55, 3) := by decide +kernel
theorem dX1_init_172 : decode cX1_init 172 = .ok (.aload_n 0, 1) := by decide +kernel
theorem dX1_init_173 : decode cX1_init 173 = .ok (.iconst 0, 1) := by decide +kernel
theorem dX1_init_174 : decode cX1_init 174 = .ok (.putfield 58, 3) := by decide +kernel
theorem dX1_init_177 : decode cX1_init 177 = .ok (.aload_n 0, 1) := by decide +kernel
theorem dX1_init_178 : decode cX1_init 178 = .ok (.lconst 0, 1) := by decide +kernel
theorem dX1_init_179 : decode cX1_init 179 = .ok (.putfield 61, 3) := by decide +kernel
theorem dX1_init_182 : decode cX1_init 182 = .ok (.aload_n 0, 1) := by decide +kernel
theorem dX1_init_183 : decode cX1_init 183 = .ok (.lconst 1, 1) := by decide +kernel
theorem dX1_init_184 : decode cX1_init 184 = .ok (.putfield 65, 3) := by decide +kernel
theorem dX1_init_187 : decode cX1_init 187 = .ok (.return_, 1) := by decide +kernel
theorem dX1_row_0 : decode cX1_row 0 = .ok (.iload_n 1, 1) := by decide +kernel
theorem dX1_row_1 : decode cX1_row 1 = .ok (.invokestatic 68, 3) := by decide +kernel
theorem dX1_row_4 : decode cX1_row 4 = .ok (.ifCond .eq 9, 3) := by decide +kernel
theorem dX1_row_7 : decode cX1_row 7 = .ok (.iload_n 2, 1) := by decide +kernel
theorem dX1_row_8 : decode cX1_row 8 = .ok (.bipush 40, 2) := by decide +kernel
theorem dX1_row_10 : decode cX1_row 10 = .ok (.if_icmp .le 5, 3) := by decide +kernel
theorem dX1_row_13 : decode cX1_row 13 = .ok (.iconst (-1), 1) := by decide +kernel
theorem dX1_row_14 : decode cX1_row 14 = .ok (.ireturn, 1) := by decide +kernel
theorem dX1_row_15 : decode cX1_row 15 = .ok (.iload_n 2, 1) := by decide +kernel
theorem dX1_row_16 : decode cX1_row 16 = .ok (.ifCond .ge 9, 3) := by decide +kernel
theorem dX1_row_19 : decode cX1_row 19 = .ok (.aload_n 0, 1) := by decide +kernel
theorem dX1_row_20 : decode cX1_row 20 = .ok (.iconst 5, 1) := by decide +kernel
theorem dX1_row_21 : decode cX1_row 21 = .ok (.invokevirtual 72, 3) := by decide +kernel
theorem dX1_row_24 : decode cX1_row 24 = .ok (.ireturn, 1) := by decide +kernel
theorem dX1_row_25 : decode cX1_row 25 = .ok (.aload_n 0, 1) := by decide +kernel
theorem dX1_row_26 : decode cX1_row 26 = .ok (.iload_n 1, 1) := by decide +kernel
theorem dX1_row_27 : decode cX1_row 27 = .ok (.iload_n 2, 1) := by decide +kernel
theorem dX1_row_28 : decode cX1_row 28 = .ok (.invokevirtual 76, 3) := by decide +kernel
theorem dX1_row_31 : decode cX1_row 31 = .ok (.iload_n 2, 1) := by decide +kernel
theorem dX1_row_32 : decode cX1_row 32 = .ok (.ireturn, 1) := by decide +kernel
theorem dX1_lay_0 : decode cX1_lay 0 = .ok (.iload_n 1, 1) := by decide +kernel
theorem dX1_lay_1 : decode cX1_lay 1 = .ok (.invokestatic 68, 3) := by decide +kernel
theorem dX1_lay_4 : decode cX1_lay 4 = .ok (.ifCond .ne 5, 3) := by decide +kernel
theorem dX1_lay_7 : decode cX1_lay 7 = .ok (.iconst (-1), 1) := by decide +kernel
theorem dX1_lay_8 : decode cX1_lay 8 = .ok (.ireturn, 1) := by decide +kernel
theorem dX1_lay_9 : decode cX1_lay 9 = .ok (.iload_n 2, 1) := by decide +kernel
theorem dX1_lay_10 : decode cX1_lay 10 = .ok (.aload_n 0, 1) := by decide +kernel
theorem dX1_lay_11 : decode cX1_lay 11 = .ok (.getfield 14, 3) := by decide +kernel
theorem dX1_lay_14 : decode cX1_lay 14 = .ok (.iload_n 1, 1) := by decide +kernel
theorem dX1_lay_15 : decode cX1_lay 15 = .ok (.iaload, 1) := by decide +kernel
theorem dX1_lay_16 : decode cX1_lay 16 = .ok (.invokestatic 80, 3) := by decide +kernel
theorem dX1_lay_19 : decode cX1_lay 19 = .ok (.istore 4, 2) := by decide +kernel
theorem dX1_lay_21 : decode cX1_lay 21 = .ok (.iload 4, 2) := by decide +kernel
theorem dX1_lay_23 : decode cX1_lay 23 = .ok (.ifCond .eq 10, 3) := by decide +kernel
theorem dX1_lay_26 : decode cX1_lay 26 = .ok (.aload_n 0, 1) := by decide +kernel
theorem dX1_lay_27 : decode cX1_lay 27 = .ok (.iload 4, 2) := by decide +kernel
theorem dX1_lay_29 : decode cX1_lay 29 = .ok (.invokevirtual 72, 3) := by decide +kernel
theorem dX1_lay_32 : decode cX1_lay 32 = .ok (.ireturn, 1) := by decide +kernel
theorem dX1_lay_33 : decode cX1_lay 33 = .ok (.aload_n 0, 1) := by decide +kernel
theorem dX1_lay_34 : decode cX1_lay 34 = .ok (.aload_n 0, 1) := by decide +kernel
theorem dX1_lay_35 : decode cX1_lay 35 = .ok (.getfield 11, 3) := by decide +kernel
theorem dX1_lay_38 : decode cX1_lay 38 = .ok (.iload_n 1, 1) := by decide +kernel
theorem dX1_lay_39 : decode cX1_lay 39 = .ok (.aaload, 1) := by decide +kernel
theorem dX1_lay_40 : decode cX1_lay 40 = .ok (.iload_n 2, 1) := by decide +kernel
theorem dX1_lay_41 : decode cX1_lay 41 = .ok (.iaload, 1) := by decide +kernel
theorem dX1_lay_42 : decode cX1_lay 42 = .ok (.putfield 58, 3) := by decide +kernel
theorem dX1_lay_45 : decode cX1_lay 45 = .ok (.aload_n 0, 1) := by decide +kernel
theorem dX1_lay_46 : decode cX1_lay 46 = .ok (.getfield 11, 3) := by decide +kernel
theorem dX1_lay_49 : decode cX1_lay 49 = .ok (.iload_n 1, 1) := by decide +kernel
theorem dX1_lay_50 : decode cX1_lay 50 = .ok (.aaload, 1) := by decide +kernel
theorem dX1_lay_51 : decode cX1_lay 51 = .ok (.iload_n 2, 1) := by decide +kernel
theorem dX1_lay_52 : decode cX1_lay 52 = .ok (.iload_n 3, 1) := by decide +kernel
theorem dX1_lay_53 : decode cX1_lay 53 = .ok (.iastore, 1) := by decide +kernel
theorem dX1_lay_54 : decode cX1_lay 54 = .ok (.iconst 1, 1) := by decide +kernel
theorem dX1_lay_55 : decode cX1_lay 55 = .ok (.ireturn, 1) := by decide +kernel
theorem dX1_at_0 : decode cX1_at 0 = .ok (.iload_n 1, 1) := by decide +kernel
theorem dX1_at_1 : decode cX1_at 1 = .ok (.invokestatic 68, 3) := by decide +kernel
theorem dX1_at_4 : decode cX1_at 4 = .ok (.ifCond .ne 5, 3) := by decide +kernel
theorem dX1_at_7 : decode cX1_at 7 = .ok (.iconst (-1), 1) := by decide +kernel
theorem dX1_at_8 : decode cX1_at 8 = .ok (.ireturn, 1) := by decide +kernel
theorem dX1_at_9 : decode cX1_at 9 = .ok (.iload_n 2, 1) := by decide +kernel
theorem dX1_at_10 : decode cX1_at 10 = .ok (.aload_n 0, 1) := by decide +kernel
theorem dX1_at_11 : decode cX1_at 11 = .ok (.getfield 14, 3) := by decide +kernel
theorem dX1_at_14 : decode cX1_at 14 = .ok (.iload_n 1, 1) := by decide +kernel
theorem dX1_at_15 : decode cX1_at 15 = .ok (.iaload, 1) := by decide +kernel
theorem dX1_at_16 : decode cX1_at 16 = .ok (.invokestatic 80, 3) := by decide +kernel
theorem dX1_at_19 : decode cX1_at 19 = .ok (.istore_n 3, 1) := by decide +kernel
theorem dX1_at_20 : decode cX1_at 20 = .ok (.iload_n 3, 1) := by decide +kernel
theorem dX1_at_21 : decode cX1_at 21 = .ok (.ifCond .eq 9, 3) := by decide +kernel
theorem dX1_at_24 : decode cX1_at 24 = .ok (.aload_n 0, 1) := by decide +kernel
theorem dX1_at_25 : decode cX1_at 25 = .ok (.iload_n 3, 1) := by decide +kernel
theorem dX1_at_26 : decode cX1_at 26 = .ok (.invokevirtual 72, 3) := by decide +kernel
theorem dX1_at_29 : decode cX1_at 29 = .ok (.ireturn, 1) := by decide +kernel
theorem dX1_at_30 : decode cX1_at 30 = .ok (.aload_n 0, 1) := by decide +kernel
theorem dX1_at_31 : decode cX1_at 31 = .ok (.aload_n 0, 1) := by decide +kernel
theorem dX1_at_32 : decode cX1_at 32 = .ok (.getfield 11, 3) := by decide +kernel
theorem dX1_at_35 : decode cX1_at 35 = .ok (.iload_n 1, 1) := by decide +kernel
theorem dX1_at_36 : decode cX1_at 36 = .ok (.aaload, 1) := by decide +kernel
theorem dX1_at_37 : decode cX1_at 37 = .ok (.iload_n 2, 1) := by decide +kernel
theorem dX1_at_38 : decode cX1_at 38 = .ok (.iaload, 1) := by decide +kernel
theorem dX1_at_39 : decode cX1_at 39 = .ok (.putfield 58, 3) := by decide +kernel
theorem dX1_at_42 : decode cX1_at 42 = .ok (.iconst 1, 1) := by decide +kernel
theorem dX1_at_43 : decode cX1_at 43 = .ok (.ireturn, 1) := by decide +kernel
theorem dX1_tear_0 : decode cX1_tear 0 = .ok (.iload_n 1, 1) := by decide +kernel
theorem dX1_tear_1 : decode cX1_tear 1 = .ok (.invokestatic 68, 3) := by decide +kernel
theorem dX1_tear_4 : decode cX1_tear 4 = .ok (.ifCond .ne 5, 3) := by decide +kernel
theorem dX1_tear_7 : decode cX1_tear 7 = .ok (.iconst (-1), 1) := by decide +kernel
theorem dX1_tear_8 : decode cX1_tear 8 = .ok (.ireturn, 1) := by decide +kernel
theorem dX1_tear_9 : decode cX1_tear 9 = .ok (.aload_n 0, 1) := by decide +kernel
theorem dX1_tear_10 : decode cX1_tear 10 = .ok (.getfield 14, 3) := by decide +kernel
theorem dX1_tear_13 : decode cX1_tear 13 = .ok (.iload_n 1, 1) := by decide +kernel
theorem dX1_tear_14 : decode cX1_tear 14 = .ok (.iaload, 1) := by decide +kernel
theorem dX1_tear_15 : decode cX1_tear 15 = .ok (.iconst (-1), 1) := by decide +kernel
theorem dX1_tear_16 : decode cX1_tear 16 = .ok (.if_icmp .ne 9, 3) := by decide +kernel
theorem dX1_tear_19 : decode cX1_tear 19 = .ok (.aload_n 0, 1) := by decide +kernel
theorem dX1_tear_20 : decode cX1_tear 20 = .ok (.iconst 1, 1) := by decide +kernel
theorem dX1_tear_21 : decode cX1_tear 21 = .ok (.invokevirtual 72, 3) := by decide +kernel
theorem dX1_tear_24 : decode cX1_tear 24 = .ok (.ireturn, 1) := by decide +kernel
theorem dX1_tear_25 : decode cX1_tear 25 = .ok (.aload_n 0, 1) := by decide +kernel
theorem dX1_tear_26 : decode cX1_tear 26 = .ok (.getfield 14, 3) := by decide +kernel
theorem dX1_tear_29 : decode cX1_tear 29 = .ok (.iload_n 1, 1) := by decide +kernel
theorem dX1_tear_30 : decode cX1_tear 30 = .ok (.iconst (-1), 1) := by decide +kernel
theorem dX1_tear_31 : decode cX1_tear 31 = .ok (.iastore, 1) := by decide +kernel
theorem dX1_tear_32 : decode cX1_tear 32 = .ok (.iconst 1, 1) := by decide +kernel
theorem dX1_tear_33 : decode cX1_tear 33 = .ok (.ireturn, 1) := by decide +kernel
theorem dX1_copy_0 : decode cX1_copy 0 = .ok (.iload_n 1, 1) := by decide +kernel
theorem dX1_copy_1 : decode cX1_copy 1 = .ok (.invokestatic 68, 3) := by decide +kernel
theorem dX1_copy_4 : decode cX1_copy 4 = .ok (.ifCond .eq 10, 3) := by decide +kernel
theorem dX1_copy_7 : decode cX1_copy 7 = .ok (.iload_n 3, 1) := by decide +kernel
theorem dX1_copy_8 : decode cX1_copy 8 = .ok (.invokestatic 68, 3) := by decide +kernel
theorem dX1_copy_11 : decode cX1_copy 11 = .ok (.ifCond .ne 5, 3) := by decide +kernel
theorem dX1_copy_14 : decode cX1_copy 14 = .ok (.iconst (-1), 1) := by decide +kernel
theorem dX1_copy_15 : decode cX1_copy 15 = .ok (.ireturn, 1) := by decide +kernel
theorem dX1_copy_16 : decode cX1_copy 16 = .ok (.iload 5, 2) := by decide +kernel
theorem dX1_copy_18 : decode cX1_copy 18 = .ok (.ifCond .ge 9, 3) := by decide +kernel
theorem dX1_copy_21 : decode cX1_copy 21 = .ok (.aload_n 0, 1) := by decide +kernel
theorem dX1_copy_22 : decode cX1_copy 22 = .ok (.iconst 5, 1) := by decide +kernel
theorem dX1_copy_23 : decode cX1_copy 23 = .ok (.invokevirtual 72, 3) := by decide +kernel
theorem dX1_copy_26 : decode cX1_copy 26 = .ok (.ireturn, 1) := by decide +kernel
theorem dX1_copy_27 : decode cX1_copy 27 = .ok (.aload_n 0, 1) := by decide +kernel
theorem dX1_copy_28 : decode cX1_copy 28 = .ok (.getfield 14, 3) := by decide +kernel
theorem dX1_copy_31 : decode cX1_copy 31 = .ok (.iload_n 1, 1) := by decide +kernel
theorem dX1_copy_32 : decode cX1_copy 32 = .ok (.iaload, 1) := by decide +kernel
theorem dX1_copy_33 : decode cX1_copy 33 = .ok (.iconst (-1), 1) := by decide +kernel
theorem dX1_copy_34 : decode cX1_copy 34 = .ok (.if_icmp .eq 13, 3) := by decide +kernel
theorem dX1_copy_37 : decode cX1_copy 37 = .ok (.aload_n 0, 1) := by decide +kernel
theorem dX1_copy_38 : decode cX1_copy 38 = .ok (.getfield 14, 3) := by decide +kernel
theorem dX1_copy_41 : decode cX1_copy 41 = .ok (.iload_n 3, 1) := by decide +kernel
theorem dX1_copy_42 : decode cX1_copy 42 = .ok (.iaload, 1) := by decide +kernel
theorem dX1_copy_43 : decode cX1_copy 43 = .ok (.iconst (-1), 1) := by decide +kernel
theorem dX1_copy_44 : decode cX1_copy 44 = .ok (.if_icmp .ne 9, 3) := by decide +kernel
theorem dX1_copy_47 : decode cX1_copy 47 = .ok (.aload_n 0, 1) := by decide +kernel
theorem dX1_copy_48 : decode cX1_copy 48 = .ok (.iconst 1, 1) := by decide +kernel
theorem dX1_copy_49 : decode cX1_copy 49 = .ok (.invokevirtual 72, 3) := by decide +kernel
theorem dX1_copy_52 : decode cX1_copy 52 = .ok (.ireturn, 1) := by decide +kernel
theorem dX1_copy_53 : decode cX1_copy 53 = .ok (.iload_n 2, 1) := by decide +kernel
theorem dX1_copy_54 : decode cX1_copy 54 = .ok (.iload 5, 2) := by decide +kernel
theorem dX1_copy_56 : decode cX1_copy 56 = .ok (.aload_n 0, 1) := by decide +kernel
theorem dX1_copy_57 : decode cX1_copy 57 = .ok (.getfield 14, 3) := by decide +kernel
theorem dX1_copy_60 : decode cX1_copy 60 = .ok (.iload_n 1, 1) := by decide +kernel
theorem dX1_copy_61 : decode cX1_copy 61 = .ok (.iaload, 1) := by decide +kernel
theorem dX1_copy_62 : decode cX1_copy 62 = .ok (.invokestatic 84, 3) := by decide +kernel
theorem dX1_copy_65 : decode cX1_copy 65 = .ok (.ifCond .eq 19, 3) := by decide +kernel
theorem dX1_copy_68 : decode cX1_copy 68 = .ok (.iload 4, 2) := by decide +kernel
theorem dX1_copy_70 : decode cX1_copy 70 = .ok (.iload 5, 2) := by decide +kernel
theorem dX1_copy_72 : decode cX1_copy 72 = .ok (.aload_n 0, 1) := by decide +kernel
theorem dX1_copy_73 : decode cX1_copy 73 = .ok (.getfield 14, 3) := by decide +kernel
theorem dX1_copy_76 : decode cX1_copy 76 = .ok (.iload_n 3, 1) := by decide +kernel
theorem dX1_copy_77 : decode cX1_copy 77 = .ok (.iaload, 1) := by decide +kernel
theorem dX1_copy_78 : decode cX1_copy 78 = .ok (.invokestatic 84, 3) := by decide +kernel
theorem dX1_copy_81 : decode cX1_copy 81 = .ok (.ifCond .ne 9, 3) := by decide +kernel
theorem dX1_copy_84 : decode cX1_copy 84 = .ok (.aload_n 0, 1) := by decide +kernel
theorem dX1_copy_85 : decode cX1_copy 85 = .ok (.iconst 2, 1) := by decide +kernel
theorem dX1_copy_86 : decode cX1_copy 86 = .ok (.invokevirtual 72, 3) := by decide +kernel
theorem dX1_copy_89 : decode cX1_copy 89 = .ok (.ireturn, 1) := by decide +kernel
theorem dX1_copy_90 : decode cX1_copy 90 = .ok (.aload_n 0, 1) := by decide +kernel
theorem dX1_copy_91 : decode cX1_copy 91 = .ok (.getfield 11, 3) := by decide +kernel
theorem dX1_copy_94 : decode cX1_copy 94 = .ok (.iload_n 1, 1) := by decide +kernel
theorem dX1_copy_95 : decode cX1_copy 95 = .ok (.aaload, 1) := by decide +kernel
theorem dX1_copy_96 : decode cX1_copy 96 = .ok (.iload_n 2, 1) := by decide +kernel
theorem dX1_copy_97 : decode cX1_copy 97 = .ok (.aload_n 0, 1) := by decide +kernel
theorem dX1_copy_98 : decode cX1_copy 98 = .ok (.getfield 11, 3) := by decide +kernel
theorem dX1_copy_101 : decode cX1_copy 101 = .ok (.iload_n 3, 1) := by decide +kernel
theorem dX1_copy_102 : decode cX1_copy 102 = .ok (.aaload, 1) := by decide +kernel
theorem dX1_copy_103 : decode cX1_copy 103 = .ok (.iload 4, 2) := by decide +kernel
theorem dX1_copy_105 : decode cX1_copy 105 = .ok (.iload 5, 2) := by decide +kernel
theorem dX1_copy_107 : decode cX1_copy 107 = .ok (.invokestatic 88, 3) := by decide +kernel
theorem dX1_copy_110 : decode cX1_copy 110 = .ok (.iconst 1, 1) := by decide +kernel
theorem dX1_copy_111 : decode cX1_copy 111 = .ok (.ireturn, 1) := by decide +kernel
theorem dX1_mean_0 : decode cX1_mean 0 = .ok (.iload_n 1, 1) := by decide +kernel
theorem dX1_mean_1 : decode cX1_mean 1 = .ok (.invokestatic 68, 3) := by decide +kernel
theorem dX1_mean_4 : decode cX1_mean 4 = .ok (.ifCond .ne 5, 3) := by decide +kernel
theorem dX1_mean_7 : decode cX1_mean 7 = .ok (.iconst (-1), 1) := by decide +kernel
theorem dX1_mean_8 : decode cX1_mean 8 = .ok (.ireturn, 1) := by decide +kernel
theorem dX1_mean_9 : decode cX1_mean 9 = .ok (.aload_n 0, 1) := by decide +kernel
theorem dX1_mean_10 : decode cX1_mean 10 = .ok (.getfield 14, 3) := by decide +kernel
theorem dX1_mean_13 : decode cX1_mean 13 = .ok (.iload_n 1, 1) := by decide +kernel
theorem dX1_mean_14 : decode cX1_mean 14 = .ok (.iaload, 1) := by decide +kernel
theorem dX1_mean_15 : decode cX1_mean 15 = .ok (.istore_n 2, 1) := by decide +kernel
theorem dX1_mean_16 : decode cX1_mean 16 = .ok (.iload_n 2, 1) := by decide +kernel
theorem dX1_mean_17 : decode cX1_mean 17 = .ok (.iconst (-1), 1) := by decide +kernel
theorem dX1_mean_18 : decode cX1_mean 18 = .ok (.if_icmp .ne 9, 3) := by decide +kernel
theorem dX1_mean_21 : decode cX1_mean 21 = .ok (.aload_n 0, 1) := by decide +kernel
theorem dX1_mean_22 : decode cX1_mean 22 = .ok (.iconst 1, 1) := by decide +kernel
theorem dX1_mean_23 : decode cX1_mean 23 = .ok (.invokevirtual 72, 3) := by decide +kernel
theorem dX1_mean_26 : decode cX1_mean 26 = .ok (.ireturn, 1) := by decide +kernel
theorem dX1_mean_27 : decode cX1_mean 27 = .ok (.iload_n 2, 1) := by decide +kernel
theorem dX1_mean_28 : decode cX1_mean 28 = .ok (.ifCond .ne 9, 3) := by decide +kernel
theorem dX1_mean_31 : decode cX1_mean 31 = .ok (.aload_n 0, 1) := by decide +kernel
theorem dX1_mean_32 : decode cX1_mean 32 = .ok (.iconst 4, 1) := by decide +kernel
theorem dX1_mean_33 : decode cX1_mean 33 = .ok (.invokevirtual 72, 3) := by decide +kernel
theorem dX1_mean_36 : decode cX1_mean 36 = .ok (.ireturn, 1) := by decide +kernel
theorem dX1_mean_37 : decode cX1_mean 37 = .ok (.lconst 0, 1) := by decide +kernel
theorem dX1_mean_38 : decode cX1_mean 38 = .ok (.lstore_n 3, 1) := by decide +kernel
theorem dX1_mean_39 : decode cX1_mean 39 = .ok (.iconst 0, 1) := by decide +kernel
theorem dX1_mean_40 : decode cX1_mean 40 = .ok (.istore 5, 2) := by decide +kernel
theorem dX1_mean_42 : decode cX1_mean 42 = .ok (.iload 5, 2) := by decide +kernel
theorem dX1_mean_44 : decode cX1_mean 44 = .ok (.iload_n 2, 1) := by decide +kernel
theorem dX1_mean_45 : decode cX1_mean 45 = .ok (.if_icmp .ge 22, 3) := by decide +kernel
theorem dX1_mean_48 : decode cX1_mean 48 = .ok (.lload_n 3, 1) := by decide +kernel
theorem dX1_mean_49 : decode cX1_mean 49 = .ok (.aload_n 0, 1) := by decide +kernel
theorem dX1_mean_50 : decode cX1_mean 50 = .ok (.getfield 11, 3) := by decide +kernel
theorem dX1_mean_53 : decode cX1_mean 53 = .ok (.iload_n 1, 1) := by decide +kernel
theorem dX1_mean_54 : decode cX1_mean 54 = .ok (.aaload, 1) := by decide +kernel
theorem dX1_mean_55 : decode cX1_mean 55 = .ok (.iload 5, 2) := by decide +kernel
theorem dX1_mean_57 : decode cX1_mean 57 = .ok (.iaload, 1) := by decide +kernel
theorem dX1_mean_58 : decode cX1_mean 58 = .ok (.i2l, 1) := by decide +kernel
theorem dX1_mean_59 : decode cX1_mean 59 = .ok (.ladd, 1) := by decide +kernel
theorem dX1_mean_60 : decode cX1_mean 60 = .ok (.lstore_n 3, 1) := by decide +kernel
theorem dX1_mean_61 : decode cX1_mean 61 = .ok (.iinc 5 1, 3) := by decide +kernel
theorem dX1_mean_64 : decode cX1_mean 64 = .ok (.goto (-22), 3) := by decide +kernel
theorem dX1_mean_67 : decode cX1_mean 67 = .ok (.aload_n 0, 1) := by decide +kernel
theorem dX1_mean_68 : decode cX1_mean 68 = .ok (.lload_n 3, 1) := by decide +kernel
theorem dX1_mean_69 : decode cX1_mean 69 = .ok (.iload_n 2, 1) := by decide +kernel
theorem dX1_mean_70 : decode cX1_mean 70 = .ok (.i2l, 1) := by decide +kernel
theorem dX1_mean_71 : decode cX1_mean 71 = .ok (.ldiv, 1) := by decide +kernel
theorem dX1_mean_72 : decode cX1_mean 72 = .ok (.l2i, 1) := by decide +kernel
theorem dX1_mean_73 : decode cX1_mean 73 = .ok (.putfield 58, 3) := by decide +kernel
theorem dX1_mean_76 : decode cX1_mean 76 = .ok (.iconst 1, 1) := by decide +kernel
theorem dX1_mean_77 : decode cX1_mean 77 = .ok (.ireturn, 1) := by decide +kernel
theorem dX1_text_0 : decode cX1_text 0 = .ok (.iload_n 1, 1) := by decide +kernel
theorem dX1_text_1 : decode cX1_text 1 = .ok (.invokestatic 94, 3) := by decide +kernel
theorem dX1_text_4 : decode cX1_text 4 = .ok (.ifCond .eq 9, 3) := by decide +kernel
theorem dX1_text_7 : decode cX1_text 7 = .ok (.iload_n 2, 1) := by decide +kernel
theorem dX1_text_8 : decode cX1_text 8 = .ok (.bipush 60, 2) := by decide +kernel
theorem dX1_text_10 : decode cX1_text 10 = .ok (.if_icmp .le 5, 3) := by decide +kernel
theorem dX1_text_13 : decode cX1_text 13 = .ok (.iconst (-1), 1) := by decide +kernel
theorem dX1_text_14 : decode cX1_text 14 = .ok (.ireturn, 1) := by decide +kernel
theorem dX1_text_15 : decode cX1_text 15 = .ok (.iload_n 2, 1) := by decide +kernel
theorem dX1_text_16 : decode cX1_text 16 = .ok (.ifCond .ge 9, 3) := by decide +kernel
theorem dX1_text_19 : decode cX1_text 19 = .ok (.aload_n 0, 1) := by decide +kernel
theorem dX1_text_20 : decode cX1_text 20 = .ok (.iconst 5, 1) := by decide +kernel
theorem dX1_text_21 : decode cX1_text 21 = .ok (.invokevirtual 72, 3) := by decide +kernel
theorem dX1_text_24 : decode cX1_text 24 = .ok (.ireturn, 1) := by decide +kernel
theorem dX1_text_25 : decode cX1_text 25 = .ok (.iconst 0, 1) := by decide +kernel
theorem dX1_text_26 : decode cX1_text 26 = .ok (.istore_n 3, 1) := by decide +kernel
theorem dX1_text_27 : decode cX1_text 27 = .ok (.iload_n 3, 1) := by decide +kernel
theorem dX1_text_28 : decode cX1_text 28 = .ok (.iload_n 2, 1) := by decide +kernel
theorem dX1_text_29 : decode cX1_text 29 = .ok (.if_icmp .ge 19, 3) := by decide +kernel
theorem dX1_text_32 : decode cX1_text 32 = .ok (.aload_n 0, 1) := by decide +kernel
theorem dX1_text_33 : decode cX1_text 33 = .ok (.getfield 20, 3) := by decide +kernel
theorem dX1_text_36 : decode cX1_text 36 = .ok (.iload_n 1, 1) := by decide +kernel
theorem dX1_text_37 : decode cX1_text 37 = .ok (.aaload, 1) := by decide +kernel
theorem dX1_text_38 : decode cX1_text 38 = .ok (.iload_n 3, 1) := by decide +kernel
theorem dX1_text_39 : decode cX1_text 39 = .ok (.bipush 32, 2) := by decide +kernel
theorem dX1_text_41 : decode cX1_text 41 = .ok (.bastore, 1) := by decide +kernel
theorem dX1_text_42 : decode cX1_text 42 = .ok (.iinc 3 1, 3) := by decide +kernel
theorem dX1_text_45 : decode cX1_text 45 = .ok (.goto (-18), 3) := by decide +kernel
theorem dX1_text_48 : decode cX1_text 48 = .ok (.aload_n 0, 1) := by decide +kernel
theorem dX1_text_49 : decode cX1_text 49 = .ok (.getfield 23, 3) := by decide +kernel
theorem dX1_text_52 : decode cX1_text 52 = .ok (.iload_n 1, 1) := by decide +kernel
theorem dX1_text_53 : decode cX1_text 53 = .ok (.iload_n 2, 1) := by decide +kernel
theorem dX1_text_54 : decode cX1_text 54 = .ok (.iastore, 1) := by decide +kernel
theorem dX1_text_55 : decode cX1_text 55 = .ok (.iload_n 2, 1) := by decide +kernel
theorem dX1_text_56 : decode cX1_text 56 = .ok (.ireturn, 1) := by decide +kernel
theorem dX1_put_0 : decode cX1_put 0 = .ok (.iload_n 1, 1) := by decide +kernel
theorem dX1_put_1 : decode cX1_put 1 = .ok (.invokestatic 94, 3) := by decide +kernel
theorem dX1_put_4 : decode cX1_put 4 = .ok (.ifCond .ne 5, 3) := by decide +kernel
theorem dX1_put_7 : decode cX1_put 7 = .ok (.iconst (-1), 1) := by decide +kernel
theorem dX1_put_8 : decode cX1_put 8 = .ok (.ireturn, 1) := by decide +kernel
theorem dX1_put_9 : decode cX1_put 9 = .ok (.iload_n 2, 1) := by decide +kernel
theorem dX1_put_10 : decode cX1_put 10 = .ok (.aload_n 0, 1) := by decide +kernel
theorem dX1_put_11 : decode cX1_put 11 = .ok (.getfield 23, 3) := by decide +kernel
theorem dX1_put_14 : decode cX1_put 14 = .ok (.iload_n 1, 1) := by decide +kernel
theorem dX1_put_15 : decode cX1_put 15 = .ok (.iaload, 1) := by decide +kernel
theorem dX1_put_16 : decode cX1_put 16 = .ok (.invokestatic 80, 3) := by decide +kernel
theorem dX1_put_19 : decode cX1_put 19 = .ok (.istore 4, 2) := by decide +kernel
theorem dX1_put_21 : decode cX1_put 21 = .ok (.iload 4, 2) := by decide +kernel
theorem dX1_put_23 : decode cX1_put 23 = .ok (.ifCond .eq 10, 3) := by decide +kernel
theorem dX1_put_26 : decode cX1_put 26 = .ok (.aload_n 0, 1) := by decide +kernel
theorem dX1_put_27 : decode cX1_put 27 = .ok (.iload 4, 2) := by decide +kernel
theorem dX1_put_29 : decode cX1_put 29 = .ok (.invokevirtual 72, 3) := by decide +kernel
theorem dX1_put_32 : decode cX1_put 32 = .ok (.ireturn, 1) := by decide +kernel
theorem dX1_put_33 : decode cX1_put 33 = .ok (.aload_n 0, 1) := by decide +kernel
theorem dX1_put_34 : decode cX1_put 34 = .ok (.getfield 20, 3) := by decide +kernel
theorem dX1_put_37 : decode cX1_put 37 = .ok (.iload_n 1, 1) := by decide +kernel
theorem dX1_put_38 : decode cX1_put 38 = .ok (.aaload, 1) := by decide +kernel
theorem dX1_put_39 : decode cX1_put 39 = .ok (.iload_n 2, 1) := by decide +kernel
theorem dX1_put_40 : decode cX1_put 40 = .ok (.baload, 1) := by decide +kernel
theorem dX1_put_41 : decode cX1_put 41 = .ok (.istore 5, 2) := by decide +kernel
theorem dX1_put_43 : decode cX1_put 43 = .ok (.aload_n 0, 1) := by decide +kernel
theorem dX1_put_44 : decode cX1_put 44 = .ok (.getfield 20, 3) := by decide +kernel
theorem dX1_put_47 : decode cX1_put 47 = .ok (.iload_n 1, 1) := by decide +kernel
theorem dX1_put_48 : decode cX1_put 48 = .ok (.aaload, 1) := by decide +kernel
theorem dX1_put_49 : decode cX1_put 49 = .ok (.iload_n 2, 1) := by decide +kernel
theorem dX1_put_50 : decode cX1_put 50 = .ok (.iload_n 3, 1) := by decide +kernel
theorem dX1_put_51 : decode cX1_put 51 = .ok (.i2b, 1) := by decide +kernel
theorem dX1_put_52 : decode cX1_put 52 = .ok (.bastore, 1) := by decide +kernel
theorem dX1_put_53 : decode cX1_put 53 = .ok (.iload 5, 2) := by decide +kernel
theorem dX1_put_55 : decode cX1_put 55 = .ok (.sipush 1000, 3) := by decide +kernel
theorem dX1_put_58 : decode cX1_put 58 = .ok (.iadd, 1) := by decide +kernel
theorem dX1_put_59 : decode cX1_put 59 = .ok (.ireturn, 1) := by decide +kernel
theorem dX1_fault_0 : decode cX1_fault 0 = .ok (.iload_n 1, 1) := by decide +kernel
theorem dX1_fault_1 : decode cX1_fault 1 = .ok (.invokestatic 94, 3) := by decide +kernel
theorem dX1_fault_4 : decode cX1_fault 4 = .ok (.ifCond .ne 5, 3) := by decide +kernel
theorem dX1_fault_7 : decode cX1_fault 7 = .ok (.iconst (-1), 1) := by decide +kernel
theorem dX1_fault_8 : decode cX1_fault 8 = .ok (.ireturn, 1) := by decide +kernel
theorem dX1_fault_9 : decode cX1_fault 9 = .ok (.aload_n 0, 1) := by decide +kernel
theorem dX1_fault_10 : decode cX1_fault 10 = .ok (.getfield 23, 3) := by decide +kernel
theorem dX1_fault_13 : decode cX1_fault 13 = .ok (.iload_n 1, 1) := by decide +kernel
theorem dX1_fault_14 : decode cX1_fault 14 = .ok (.iaload, 1) := by decide +kernel
theorem dX1_fault_15 : decode cX1_fault 15 = .ok (.iconst (-1), 1) := by decide +kernel
theorem dX1_fault_16 : decode cX1_fault 16 = .ok (.if_icmp .ne 9, 3) := by decide +kernel
theorem dX1_fault_19 : decode cX1_fault 19 = .ok (.aload_n 0, 1) := by decide +kernel
theorem dX1_fault_20 : decode cX1_fault 20 = .ok (.iconst 1, 1) := by decide +kernel
theorem dX1_fault_21 : decode cX1_fault 21 = .ok (.invokevirtual 72, 3) := by decide +kernel
theorem dX1_fault_24 : decode cX1_fault 24 = .ok (.ireturn, 1) := by decide +kernel
theorem dX1_fault_25 : decode cX1_fault 25 = .ok (.aload_n 0, 1) := by decide +kernel
theorem dX1_fault_26 : decode cX1_fault 26 = .ok (.getfield 33, 3) := by decide +kernel
theorem dX1_fault_29 : decode cX1_fault 29 = .ok (.aload_n 0, 1) := by decide +kernel
theorem dX1_fault_30 : decode cX1_fault 30 = .ok (.getfield 20, 3) := by decide +kernel
theorem dX1_fault_33 : decode cX1_fault 33 = .ok (.iload_n 1, 1) := by decide +kernel
theorem dX1_fault_34 : decode cX1_fault 34 = .ok (.aaload, 1) := by decide +kernel
theorem dX1_fault_35 : decode cX1_fault 35 = .ok (.aload_n 0, 1) := by decide +kernel
theorem dX1_fault_36 : decode cX1_fault 36 = .ok (.getfield 23, 3) := by decide +kernel
theorem dX1_fault_39 : decode cX1_fault 39 = .ok (.iload_n 1, 1) := by decide +kernel
theorem dX1_fault_40 : decode cX1_fault 40 = .ok (.iaload, 1) := by decide +kernel
theorem dX1_fault_41 : decode cX1_fault 41 = .ok (.invokevirtual 97, 3) := by decide +kernel
theorem dX1_fault_44 : decode cX1_fault 44 = .ok (.ireturn, 1) := by decide +kernel
theorem dX1_store_0 : decode cX1_store 0 = .ok (.iload_n 1, 1) := by decide +kernel
theorem dX1_store_1 : decode cX1_store 1 = .ok (.invokestatic 94, 3) := by decide +kernel
theorem dX1_store_4 : decode cX1_store 4 = .ok (.ifCond .ne 5, 3) := by decide +kernel
theorem dX1_store_7 : decode cX1_store 7 = .ok (.iconst (-1), 1) := by decide +kernel
theorem dX1_store_8 : decode cX1_store 8 = .ok (.ireturn, 1) := by decide +kernel
theorem dX1_store_9 : decode cX1_store 9 = .ok (.aload_n 0, 1) := by decide +kernel
theorem dX1_store_10 : decode cX1_store 10 = .ok (.getfield 23, 3) := by decide +kernel
theorem dX1_store_13 : decode cX1_store 13 = .ok (.iload_n 1, 1) := by decide +kernel
theorem dX1_store_14 : decode cX1_store 14 = .ok (.iaload, 1) := by decide +kernel
theorem dX1_store_15 : decode cX1_store 15 = .ok (.iconst (-1), 1) := by decide +kernel
theorem dX1_store_16 : decode cX1_store 16 = .ok (.if_icmp .ne 9, 3) := by decide +kernel
theorem dX1_store_19 : decode cX1_store 19 = .ok (.aload_n 0, 1) := by decide +kernel
theorem dX1_store_20 : decode cX1_store 20 = .ok (.iconst 1, 1) := by decide +kernel
theorem dX1_store_21 : decode cX1_store 21 = .ok (.invokevirtual 72, 3) := by decide +kernel
theorem dX1_store_24 : decode cX1_store 24 = .ok (.ireturn, 1) := by decide +kernel
theorem dX1_store_25 : decode cX1_store 25 = .ok (.aload_n 0, 1) := by decide +kernel
theorem dX1_store_26 : decode cX1_store 26 = .ok (.getfield 33, 3) := by decide +kernel
theorem dX1_store_29 : decode cX1_store 29 = .ok (.aload_n 0, 1) := by decide +kernel
theorem dX1_store_30 : decode cX1_store 30 = .ok (.getfield 20, 3) := by decide +kernel
theorem dX1_store_33 : decode cX1_store 33 = .ok (.iload_n 1, 1) := by decide +kernel
theorem dX1_store_34 : decode cX1_store 34 = .ok (.aaload, 1) := by decide +kernel
theorem dX1_store_35 : decode cX1_store 35 = .ok (.aload_n 0, 1) := by decide +kernel
theorem dX1_store_36 : decode cX1_store 36 = .ok (.getfield 23, 3) := by decide +kernel
theorem dX1_store_39 : decode cX1_store 39 = .ok (.iload_n 1, 1) := by decide +kernel
theorem dX1_store_40 : decode cX1_store 40 = .ok (.iaload, 1) := by decide +kernel
theorem dX1_store_41 : decode cX1_store 41 = .ok (.invokevirtual 97, 3) := by decide +kernel
theorem dX1_store_44 : decode cX1_store 44 = .ok (.bipush (-9), 2) := by decide +kernel
theorem dX1_store_46 : decode cX1_store 46 = .ok (.if_icmp .eq 6, 3) := by decide +kernel
theorem dX1_store_49 : decode cX1_store 49 = .ok (.bipush (-4), 2) := by decide +kernel
theorem dX1_store_51 : decode cX1_store 51 = .ok (.ireturn, 1) := by decide +kernel
theorem dX1_store_52 : decode cX1_store 52 = .ok (.aload_n 0, 1) := by decide +kernel
theorem dX1_store_53 : decode cX1_store 53 = .ok (.getfield 33, 3) := by decide +kernel
theorem dX1_store_56 : decode cX1_store 56 = .ok (.invokevirtual 101, 3) := by decide +kernel
theorem dX1_store_59 : decode cX1_store 59 = .ok (.aload_n 0, 1) := by decide +kernel
theorem dX1_store_60 : decode cX1_store 60 = .ok (.getfield 29, 3) := by decide +kernel
theorem dX1_store_63 : decode cX1_store 63 = .ok (.aload_n 0, 1) := by decide +kernel
theorem dX1_store_64 : decode cX1_store 64 = .ok (.getfield 33, 3) := by decide +kernel
theorem dX1_store_67 : decode cX1_store 67 = .ok (.invokevirtual 104, 3) := by decide +kernel
theorem dX1_store_70 : decode cX1_store 70 = .ok (.aload_n 0, 1) := by decide +kernel
theorem dX1_store_71 : decode cX1_store 71 = .ok (.iconst 0, 1) := by decide +kernel
theorem dX1_store_72 : decode cX1_store 72 = .ok (.putfield 39, 3) := by decide +kernel
theorem dX1_store_75 : decode cX1_store 75 = .ok (.iconst 0, 1) := by decide +kernel
theorem dX1_store_76 : decode cX1_store 76 = .ok (.istore_n 2, 1) := by decide +kernel
theorem dX1_store_77 : decode cX1_store 77 = .ok (.iload_n 2, 1) := by decide +kernel
theorem dX1_store_78 : decode cX1_store 78 = .ok (.iconst 3, 1) := by decide +kernel
theorem dX1_store_79 : decode cX1_store 79 = .ok (.if_icmp .ge 16, 3) := by decide +kernel
theorem dX1_store_82 : decode cX1_store 82 = .ok (.aload_n 0, 1) := by decide +kernel
theorem dX1_store_83 : decode cX1_store 83 = .ok (.getfield 46, 3) := by decide +kernel
theorem dX1_store_86 : decode cX1_store 86 = .ok (.iload_n 2, 1) := by decide +kernel
theorem dX1_store_87 : decode cX1_store 87 = .ok (.iconst (-1), 1) := by decide +kernel
theorem dX1_store_88 : decode cX1_store 88 = .ok (.iastore, 1) := by decide +kernel
theorem dX1_store_89 : decode cX1_store 89 = .ok (.iinc 2 1, 3) := by decide +kernel
theorem dX1_store_92 : decode cX1_store 92 = .ok (.goto (-15), 3) := by decide +kernel
theorem dX1_store_95 : decode cX1_store 95 = .ok (.aload_n 0, 1) := by decide +kernel
theorem dX1_store_96 : decode cX1_store 96 = .ok (.getfield 29, 3) := by decide +kernel
theorem dX1_store_99 : decode cX1_store 99 = .ok (.getfield 108, 3) := by decide +kernel
theorem dX1_store_102 : decode cX1_store 102 = .ok (.ireturn, 1) := by decide +kernel
theorem dX1_tube_0 : decode cX1_tube 0 = .ok (.aload_n 0, 1) := by decide +kernel
theorem dX1_tube_1 : decode cX1_tube 1 = .ok (.getfield 29, 3) := by decide +kernel
theorem dX1_tube_4 : decode cX1_tube 4 = .ok (.iload_n 1, 1) := by decide +kernel
theorem dX1_tube_5 : decode cX1_tube 5 = .ok (.invokevirtual 111, 3) := by decide +kernel
theorem dX1_tube_8 : decode cX1_tube 8 = .ok (.ifCond .eq 13, 3) := by decide +kernel
theorem dX1_tube_11 : decode cX1_tube 11 = .ok (.iload_n 2, 1) := by decide +kernel
theorem dX1_tube_12 : decode cX1_tube 12 = .ok (.iconst 0, 1) := by decide +kernel
theorem dX1_tube_13 : decode cX1_tube 13 = .ok (.bipush 6, 2) := by decide +kernel
theorem dX1_tube_15 : decode cX1_tube 15 = .ok (.invokestatic 114, 3) := by decide +kernel
theorem dX1_tube_18 : decode cX1_tube 18 = .ok (.ifCond .ne 5, 3) := by decide +kernel
theorem dX1_tube_21 : decode cX1_tube 21 = .ok (.iconst (-1), 1) := by decide +kernel
theorem dX1_tube_22 : decode cX1_tube 22 = .ok (.ireturn, 1) := by decide +kernel
theorem dX1_tube_23 : decode cX1_tube 23 = .ok (.aload_n 0, 1) := by decide +kernel
theorem dX1_tube_24 : decode cX1_tube 24 = .ok (.aload_n 0, 1) := by decide +kernel
theorem dX1_tube_25 : decode cX1_tube 25 = .ok (.getfield 29, 3) := by decide +kernel
theorem dX1_tube_28 : decode cX1_tube 28 = .ok (.iload_n 1, 1) := by decide +kernel
theorem dX1_tube_29 : decode cX1_tube 29 = .ok (.iload_n 2, 1) := by decide +kernel
theorem dX1_tube_30 : decode cX1_tube 30 = .ok (.invokevirtual 117, 3) := by decide +kernel
theorem dX1_tube_33 : decode cX1_tube 33 = .ok (.putfield 58, 3) := by decide +kernel
theorem dX1_tube_36 : decode cX1_tube 36 = .ok (.iconst 1, 1) := by decide +kernel
theorem dX1_tube_37 : decode cX1_tube 37 = .ok (.ireturn, 1) := by decide +kernel
theorem dX1_mark_0 : decode cX1_mark 0 = .ok (.aload_n 0, 1) := by decide +kernel
theorem dX1_mark_1 : decode cX1_mark 1 = .ok (.getfield 29, 3) := by decide +kernel
theorem dX1_mark_4 : decode cX1_mark 4 = .ok (.iload_n 1, 1) := by decide +kernel
theorem dX1_mark_5 : decode cX1_mark 5 = .ok (.invokevirtual 111, 3) := by decide +kernel
theorem dX1_mark_8 : decode cX1_mark 8 = .ok (.ifCond .eq 12, 3) := by decide +kernel
theorem dX1_mark_11 : decode cX1_mark 11 = .ok (.iload_n 2, 1) := by decide +kernel
theorem dX1_mark_12 : decode cX1_mark 12 = .ok (.iconst 1, 1) := by decide +kernel
theorem dX1_mark_13 : decode cX1_mark 13 = .ok (.iconst 5, 1) := by decide +kernel
theorem dX1_mark_14 : decode cX1_mark 14 = .ok (.invokestatic 114, 3) := by decide +kernel
theorem dX1_mark_17 : decode cX1_mark 17 = .ok (.ifCond .ne 5, 3) := by decide +kernel
theorem dX1_mark_20 : decode cX1_mark 20 = .ok (.iconst (-1), 1) := by decide +kernel
theorem dX1_mark_21 : decode cX1_mark 21 = .ok (.ireturn, 1) := by decide +kernel
theorem dX1_mark_22 : decode cX1_mark 22 = .ok (.aload_n 0, 1) := by decide +kernel
theorem dX1_mark_23 : decode cX1_mark 23 = .ok (.getfield 29, 3) := by decide +kernel
theorem dX1_mark_26 : decode cX1_mark 26 = .ok (.iload_n 1, 1) := by decide +kernel
theorem dX1_mark_27 : decode cX1_mark 27 = .ok (.iload_n 2, 1) := by decide +kernel
theorem dX1_mark_28 : decode cX1_mark 28 = .ok (.invokevirtual 120, 3) := by decide +kernel
theorem dX1_mark_31 : decode cX1_mark 31 = .ok (.ifCond .ne 9, 3) := by decide +kernel
theorem dX1_mark_34 : decode cX1_mark 34 = .ok (.aload_n 0, 1) := by decide +kernel
theorem dX1_mark_35 : decode cX1_mark 35 = .ok (.iconst 3, 1) := by decide +kernel
theorem dX1_mark_36 : decode cX1_mark 36 = .ok (.invokevirtual 72, 3) := by decide +kernel
theorem dX1_mark_39 : decode cX1_mark 39 = .ok (.ireturn, 1) := by decide +kernel
theorem dX1_mark_40 : decode cX1_mark 40 = .ok (.aload_n 0, 1) := by decide +kernel
theorem dX1_mark_41 : decode cX1_mark 41 = .ok (.getfield 29, 3) := by decide +kernel
theorem dX1_mark_44 : decode cX1_mark 44 = .ok (.iload_n 1, 1) := by decide +kernel
theorem dX1_mark_45 : decode cX1_mark 45 = .ok (.iload_n 2, 1) := by decide +kernel
theorem dX1_mark_46 : decode cX1_mark 46 = .ok (.invokevirtual 124, 3) := by decide +kernel
theorem dX1_mark_49 : decode cX1_mark 49 = .ok (.ireturn, 1) := by decide +kernel
theorem dX1_tick_0 : decode cX1_tick 0 = .ok (.aload_n 0, 1) := by decide +kernel
theorem dX1_tick_1 : decode cX1_tick 1 = .ok (.getfield 29, 3) := by decide +kernel
theorem dX1_tick_4 : decode cX1_tick 4 = .ok (.getfield 108, 3) := by decide +kernel
theorem dX1_tick_7 : decode cX1_tick 7 = .ok (.ifCond .eq 15, 3) := by decide +kernel
theorem dX1_tick_10 : decode cX1_tick 10 = .ok (.aload_n 0, 1) := by decide +kernel
theorem dX1_tick_11 : decode cX1_tick 11 = .ok (.getfield 29, 3) := by decide +kernel
theorem dX1_tick_14 : decode cX1_tick 14 = .ok (.getfield 127, 3) := by decide +kernel
theorem dX1_tick_17 : decode cX1_tick 17 = .ok (.bipush 99, 2) := by decide +kernel
theorem dX1_tick_19 : decode cX1_tick 19 = .ok (.if_icmp .lt 6, 3) := by decide +kernel
theorem dX1_tick_22 : decode cX1_tick 22 = .ok (.bipush (-4), 2) := by decide +kernel
theorem dX1_tick_24 : decode cX1_tick 24 = .ok (.ireturn, 1) := by decide +kernel
theorem dX1_tick_25 : decode cX1_tick 25 = .ok (.aload_n 0, 1) := by decide +kernel
theorem dX1_tick_26 : decode cX1_tick 26 = .ok (.iconst 1, 1) := by decide +kernel
theorem dX1_tick_27 : decode cX1_tick 27 = .ok (.invokevirtual 130, 3) := by decide +kernel
theorem dX1_tick_30 : decode cX1_tick 30 = .ok (.ifCond .ne 6, 3) := by decide +kernel
theorem dX1_tick_33 : decode cX1_tick 33 = .ok (.bipush (-2), 2) := by decide +kernel
theorem dX1_tick_35 : decode cX1_tick 35 = .ok (.ireturn, 1) := by decide +kernel
theorem dX1_tick_36 : decode cX1_tick 36 = .ok (.aload_n 0, 1) := by decide +kernel
theorem dX1_tick_37 : decode cX1_tick 37 = .ok (.iconst 0, 1) := by decide +kernel
theorem dX1_tick_38 : decode cX1_tick 38 = .ok (.iconst 0, 1) := by decide +kernel
theorem dX1_tick_39 : decode cX1_tick 39 = .ok (.iconst 0, 1) := by decide +kernel
theorem dX1_tick_40 : decode cX1_tick 40 = .ok (.invokevirtual 133, 3) := by decide +kernel
theorem dX1_tick_43 : decode cX1_tick 43 = .ok (.aload_n 0, 1) := by decide +kernel
theorem dX1_tick_44 : decode cX1_tick 44 = .ok (.getfield 29, 3) := by decide +kernel
theorem dX1_tick_47 : decode cX1_tick 47 = .ok (.invokevirtual 137, 3) := by decide +kernel
theorem dX1_tick_50 : decode cX1_tick 50 = .ok (.ireturn, 1) := by decide +kernel
theorem dX1_set_0 : decode cX1_set 0 = .ok (.aload_n 0, 1) := by decide +kernel
theorem dX1_set_1 : decode cX1_set 1 = .ok (.getfield 29, 3) := by decide +kernel
theorem dX1_set_4 : decode cX1_set 4 = .ok (.iload_n 1, 1) := by decide +kernel
theorem dX1_set_5 : decode cX1_set 5 = .ok (.invokevirtual 111, 3) := by decide +kernel
theorem dX1_set_8 : decode cX1_set 8 = .ok (.ifCond .eq 22, 3) := by decide +kernel
theorem dX1_set_11 : decode cX1_set 11 = .ok (.iload_n 2, 1) := by decide +kernel
theorem dX1_set_12 : decode cX1_set 12 = .ok (.iconst 0, 1) := by decide +kernel
theorem dX1_set_13 : decode cX1_set 13 = .ok (.aload_n 0, 1) := by decide +kernel
theorem dX1_set_14 : decode cX1_set 14 = .ok (.getfield 29, 3) := by decide +kernel
theorem dX1_set_17 : decode cX1_set 17 = .ok (.getfield 141, 3) := by decide +kernel
theorem dX1_set_20 : decode cX1_set 20 = .ok (.iload_n 1, 1) := by decide +kernel
theorem dX1_set_21 : decode cX1_set 21 = .ok (.iaload, 1) := by decide +kernel
theorem dX1_set_22 : decode cX1_set 22 = .ok (.iconst 1, 1) := by decide +kernel
theorem dX1_set_23 : decode cX1_set 23 = .ok (.isub, 1) := by decide +kernel
theorem dX1_set_24 : decode cX1_set 24 = .ok (.invokestatic 114, 3) := by decide +kernel
theorem dX1_set_27 : decode cX1_set 27 = .ok (.ifCond .ne 5, 3) := by decide +kernel
theorem dX1_set_30 : decode cX1_set 30 = .ok (.iconst (-1), 1) := by decide +kernel
theorem dX1_set_31 : decode cX1_set 31 = .ok (.ireturn, 1) := by decide +kernel
theorem dX1_set_32 : decode cX1_set 32 = .ok (.aload_n 0, 1) := by decide +kernel
theorem dX1_set_33 : decode cX1_set 33 = .ok (.iconst 1, 1) := by decide +kernel
theorem dX1_set_34 : decode cX1_set 34 = .ok (.invokevirtual 130, 3) := by decide +kernel
theorem dX1_set_37 : decode cX1_set 37 = .ok (.ifCond .ne 6, 3) := by decide +kernel
theorem dX1_set_40 : decode cX1_set 40 = .ok (.bipush (-2), 2) := by decide +kernel
theorem dX1_set_42 : decode cX1_set 42 = .ok (.ireturn, 1) := by decide +kernel
theorem dX1_set_43 : decode cX1_set 43 = .ok (.aload_n 0, 1) := by decide +kernel
theorem dX1_set_44 : decode cX1_set 44 = .ok (.iconst 1, 1) := by decide +kernel
theorem dX1_set_45 : decode cX1_set 45 = .ok (.iload_n 1, 1) := by decide +kernel
theorem dX1_set_46 : decode cX1_set 46 = .ok (.iload_n 2, 1) := by decide +kernel
theorem dX1_set_47 : decode cX1_set 47 = .ok (.invokevirtual 133, 3) := by decide +kernel
theorem dX1_set_50 : decode cX1_set 50 = .ok (.aload_n 0, 1) := by decide +kernel
theorem dX1_set_51 : decode cX1_set 51 = .ok (.getfield 29, 3) := by decide +kernel
theorem dX1_set_54 : decode cX1_set 54 = .ok (.getfield 144, 3) := by decide +kernel
theorem dX1_set_57 : decode cX1_set 57 = .ok (.iload_n 1, 1) := by decide +kernel
theorem dX1_set_58 : decode cX1_set 58 = .ok (.iaload, 1) := by decide +kernel
theorem dX1_set_59 : decode cX1_set 59 = .ok (.ireturn, 1) := by decide +kernel
theorem dX1_swap_0 : decode cX1_swap 0 = .ok (.aload_n 0, 1) := by decide +kernel
theorem dX1_swap_1 : decode cX1_swap 1 = .ok (.getfield 29, 3) := by decide +kernel
theorem dX1_swap_4 : decode cX1_swap 4 = .ok (.iload_n 1, 1) := by decide +kernel
theorem dX1_swap_5 : decode cX1_swap 5 = .ok (.invokevirtual 111, 3) := by decide +kernel
theorem dX1_swap_8 : decode cX1_swap 8 = .ok (.ifCond .eq 19, 3) := by decide +kernel
theorem dX1_swap_11 : decode cX1_swap 11 = .ok (.aload_n 0, 1) := by decide +kernel
theorem dX1_swap_12 : decode cX1_swap 12 = .ok (.getfield 29, 3) := by decide +kernel
theorem dX1_swap_15 : decode cX1_swap 15 = .ok (.iload_n 2, 1) := by decide +kernel
theorem dX1_swap_16 : decode cX1_swap 16 = .ok (.invokevirtual 111, 3) := by decide +kernel
theorem dX1_swap_19 : decode cX1_swap 19 = .ok (.ifCond .eq 8, 3) := by decide +kernel
theorem dX1_swap_22 : decode cX1_swap 22 = .ok (.iload_n 1, 1) := by decide +kernel
theorem dX1_swap_23 : decode cX1_swap 23 = .ok (.iload_n 2, 1) := by decide +kernel
theorem dX1_swap_24 : decode cX1_swap 24 = .ok (.if_icmp .ne 5, 3) := by decide +kernel
theorem dX1_swap_27 : decode cX1_swap 27 = .ok (.iconst (-1), 1) := by decide +kernel
theorem dX1_swap_28 : decode cX1_swap 28 = .ok (.ireturn, 1) := by decide +kernel
theorem dX1_swap_29 : decode cX1_swap 29 = .ok (.aload_n 0, 1) := by decide +kernel
theorem dX1_swap_30 : decode cX1_swap 30 = .ok (.iconst 1, 1) := by decide +kernel
theorem dX1_swap_31 : decode cX1_swap 31 = .ok (.invokevirtual 130, 3) := by decide +kernel
theorem dX1_swap_34 : decode cX1_swap 34 = .ok (.ifCond .ne 6, 3) := by decide +kernel
theorem dX1_swap_37 : decode cX1_swap 37 = .ok (.bipush (-2), 2) := by decide +kernel
theorem dX1_swap_39 : decode cX1_swap 39 = .ok (.ireturn, 1) := by decide +kernel
theorem dX1_swap_40 : decode cX1_swap 40 = .ok (.aload_n 0, 1) := by decide +kernel
theorem dX1_swap_41 : decode cX1_swap 41 = .ok (.iconst 2, 1) := by decide +kernel
theorem dX1_swap_42 : decode cX1_swap 42 = .ok (.iload_n 1, 1) := by decide +kernel
theorem dX1_swap_43 : decode cX1_swap 43 = .ok (.iload_n 2, 1) := by decide +kernel
theorem dX1_swap_44 : decode cX1_swap 44 = .ok (.invokevirtual 133, 3) := by decide +kernel
theorem dX1_swap_47 : decode cX1_swap 47 = .ok (.aload_n 0, 1) := by decide +kernel
theorem dX1_swap_48 : decode cX1_swap 48 = .ok (.getfield 29, 3) := by decide +kernel
theorem dX1_swap_51 : decode cX1_swap 51 = .ok (.getfield 147, 3) := by decide +kernel
theorem dX1_swap_54 : decode cX1_swap 54 = .ok (.iload_n 1, 1) := by decide +kernel
theorem dX1_swap_55 : decode cX1_swap 55 = .ok (.iaload, 1) := by decide +kernel
theorem dX1_swap_56 : decode cX1_swap 56 = .ok (.ireturn, 1) := by decide +kernel
theorem dX1_word_0 : decode cX1_word 0 = .ok (.aload_n 0, 1) := by decide +kernel
theorem dX1_word_1 : decode cX1_word 1 = .ok (.getfield 29, 3) := by decide +kernel
theorem dX1_word_4 : decode cX1_word 4 = .ok (.iload_n 1, 1) := by decide +kernel
theorem dX1_word_5 : decode cX1_word 5 = .ok (.invokevirtual 111, 3) := by decide +kernel
theorem dX1_word_8 : decode cX1_word 8 = .ok (.ifCond .eq 15, 3) := by decide +kernel
theorem dX1_word_11 : decode cX1_word 11 = .ok (.aload_n 0, 1) := by decide +kernel
theorem dX1_word_12 : decode cX1_word 12 = .ok (.getfield 29, 3) := by decide +kernel
theorem dX1_word_15 : decode cX1_word 15 = .ok (.iload_n 1, 1) := by decide +kernel
theorem dX1_word_16 : decode cX1_word 16 = .ok (.iload_n 2, 1) := by decide +kernel
theorem dX1_word_17 : decode cX1_word 17 = .ok (.invokevirtual 150, 3) := by decide +kernel
theorem dX1_word_20 : decode cX1_word 20 = .ok (.ifCond .ne 5, 3) := by decide +kernel
theorem dX1_word_23 : decode cX1_word 23 = .ok (.iconst (-1), 1) := by decide +kernel
theorem dX1_word_24 : decode cX1_word 24 = .ok (.ireturn, 1) := by decide +kernel
theorem dX1_word_25 : decode cX1_word 25 = .ok (.aload_n 0, 1) := by decide +kernel
theorem dX1_word_26 : decode cX1_word 26 = .ok (.getfield 29, 3) := by decide +kernel
theorem dX1_word_29 : decode cX1_word 29 = .ok (.getfield 144, 3) := by decide +kernel
theorem dX1_word_32 : decode cX1_word 32 = .ok (.iload_n 1, 1) := by decide +kernel
theorem dX1_word_33 : decode cX1_word 33 = .ok (.iaload, 1) := by decide +kernel
theorem dX1_word_34 : decode cX1_word 34 = .ok (.istore_n 3, 1) := by decide +kernel
theorem dX1_word_35 : decode cX1_word 35 = .ok (.iload_n 3, 1) := by decide +kernel
theorem dX1_word_36 : decode cX1_word 36 = .ok (.iload_n 2, 1) := by decide +kernel
theorem dX1_word_37 : decode cX1_word 37 = .ok (.if_icmp .ne 6, 3) := by decide +kernel
theorem dX1_word_40 : decode cX1_word 40 = .ok (.bipush (-4), 2) := by decide +kernel
theorem dX1_word_42 : decode cX1_word 42 = .ok (.ireturn, 1) := by decide +kernel
theorem dX1_word_43 : decode cX1_word 43 = .ok (.aload_n 0, 1) := by decide +kernel
theorem dX1_word_44 : decode cX1_word 44 = .ok (.iconst 1, 1) := by decide +kernel
theorem dX1_word_45 : decode cX1_word 45 = .ok (.invokevirtual 130, 3) := by decide +kernel
theorem dX1_word_48 : decode cX1_word 48 = .ok (.ifCond .ne 6, 3) := by decide +kernel
theorem dX1_word_51 : decode cX1_word 51 = .ok (.bipush (-2), 2) := by decide +kernel
theorem dX1_word_53 : decode cX1_word 53 = .ok (.ireturn, 1) := by decide +kernel
theorem dX1_word_54 : decode cX1_word 54 = .ok (.aload_n 0, 1) := by decide +kernel
theorem dX1_word_55 : decode cX1_word 55 = .ok (.iconst 3, 1) := by decide +kernel
theorem dX1_word_56 : decode cX1_word 56 = .ok (.iload_n 1, 1) := by decide +kernel
theorem dX1_word_57 : decode cX1_word 57 = .ok (.iload_n 2, 1) := by decide +kernel
theorem dX1_word_58 : decode cX1_word 58 = .ok (.invokevirtual 133, 3) := by decide +kernel
theorem dX1_word_61 : decode cX1_word 61 = .ok (.iload_n 3, 1) := by decide +kernel
theorem dX1_word_62 : decode cX1_word 62 = .ok (.ireturn, 1) := by decide +kernel
theorem dX1_undo_0 : decode cX1_undo 0 = .ok (.iload_n 1, 1) := by decide +kernel
theorem dX1_undo_1 : decode cX1_undo 1 = .ok (.iconst 0, 1) := by decide +kernel
theorem dX1_undo_2 : decode cX1_undo 2 = .ok (.aload_n 0, 1) := by decide +kernel
theorem dX1_undo_3 : decode cX1_undo 3 = .ok (.getfield 39, 3) := by decide +kernel
theorem dX1_undo_6 : decode cX1_undo 6 = .ok (.invokestatic 114, 3) := by decide +kernel
theorem dX1_undo_9 : decode cX1_undo 9 = .ok (.ifCond .ne 5, 3) := by decide +kernel
theorem dX1_undo_12 : decode cX1_undo 12 = .ok (.iconst (-1), 1) := by decide +kernel
theorem dX1_undo_13 : decode cX1_undo 13 = .ok (.ireturn, 1) := by decide +kernel
theorem dX1_undo_14 : decode cX1_undo 14 = .ok (.aload_n 0, 1) := by decide +kernel
theorem dX1_undo_15 : decode cX1_undo 15 = .ok (.getfield 39, 3) := by decide +kernel
theorem dX1_undo_18 : decode cX1_undo 18 = .ok (.iload_n 1, 1) := by decide +kernel
theorem dX1_undo_19 : decode cX1_undo 19 = .ok (.isub, 1) := by decide +kernel
theorem dX1_undo_20 : decode cX1_undo 20 = .ok (.istore_n 2, 1) := by decide +kernel
theorem dX1_undo_21 : decode cX1_undo 21 = .ok (.aload_n 0, 1) := by decide +kernel
theorem dX1_undo_22 : decode cX1_undo 22 = .ok (.iload_n 1, 1) := by decide +kernel
theorem dX1_undo_23 : decode cX1_undo 23 = .ok (.putfield 39, 3) := by decide +kernel
theorem dX1_undo_26 : decode cX1_undo 26 = .ok (.aload_n 0, 1) := by decide +kernel
theorem dX1_undo_27 : decode cX1_undo 27 = .ok (.invokevirtual 153, 3) := by decide +kernel
theorem dX1_undo_30 : decode cX1_undo 30 = .ok (.iload_n 2, 1) := by decide +kernel
theorem dX1_undo_31 : decode cX1_undo 31 = .ok (.ireturn, 1) := by decide +kernel
theorem dX1_keep_0 : decode cX1_keep 0 = .ok (.iload_n 1, 1) := by decide +kernel
theorem dX1_keep_1 : decode cX1_keep 1 = .ok (.invokestatic 156, 3) := by decide +kernel
theorem dX1_keep_4 : decode cX1_keep 4 = .ok (.ifCond .ne 5, 3) := by decide +kernel
theorem dX1_keep_7 : decode cX1_keep 7 = .ok (.iconst (-1), 1) := by decide +kernel
theorem dX1_keep_8 : decode cX1_keep 8 = .ok (.ireturn, 1) := by decide +kernel
theorem dX1_keep_9 : decode cX1_keep 9 = .ok (.aload_n 0, 1) := by decide +kernel
theorem dX1_keep_10 : decode cX1_keep 10 = .ok (.getfield 29, 3) := by decide +kernel
theorem dX1_keep_13 : decode cX1_keep 13 = .ok (.getfield 108, 3) := by decide +kernel
theorem dX1_keep_16 : decode cX1_keep 16 = .ok (.ifCond .ne 6, 3) := by decide +kernel
theorem dX1_keep_19 : decode cX1_keep 19 = .ok (.bipush (-4), 2) := by decide +kernel
theorem dX1_keep_21 : decode cX1_keep 21 = .ok (.ireturn, 1) := by decide +kernel
theorem dX1_keep_22 : decode cX1_keep 22 = .ok (.aload_n 0, 1) := by decide +kernel
theorem dX1_keep_23 : decode cX1_keep 23 = .ok (.getfield 36, 3) := by decide +kernel
theorem dX1_keep_26 : decode cX1_keep 26 = .ok (.iconst 0, 1) := by decide +kernel
theorem dX1_keep_27 : decode cX1_keep 27 = .ok (.aload_n 0, 1) := by decide +kernel
theorem dX1_keep_28 : decode cX1_keep 28 = .ok (.getfield 43, 3) := by decide +kernel
theorem dX1_keep_31 : decode cX1_keep 31 = .ok (.iload_n 1, 1) := by decide +kernel
theorem dX1_keep_32 : decode cX1_keep 32 = .ok (.aaload, 1) := by decide +kernel
theorem dX1_keep_33 : decode cX1_keep 33 = .ok (.iconst 0, 1) := by decide +kernel
theorem dX1_keep_34 : decode cX1_keep 34 = .ok (.bipush 40, 2) := by decide +kernel
theorem dX1_keep_36 : decode cX1_keep 36 = .ok (.invokestatic 88, 3) := by decide +kernel
theorem dX1_keep_39 : decode cX1_keep 39 = .ok (.aload_n 0, 1) := by decide +kernel
theorem dX1_keep_40 : decode cX1_keep 40 = .ok (.getfield 46, 3) := by decide +kernel
theorem dX1_keep_43 : decode cX1_keep 43 = .ok (.iload_n 1, 1) := by decide +kernel
theorem dX1_keep_44 : decode cX1_keep 44 = .ok (.aload_n 0, 1) := by decide +kernel
theorem dX1_keep_45 : decode cX1_keep 45 = .ok (.getfield 39, 3) := by decide +kernel
theorem dX1_keep_48 : decode cX1_keep 48 = .ok (.iastore, 1) := by decide +kernel
theorem dX1_keep_49 : decode cX1_keep 49 = .ok (.aload_n 0, 1) := by decide +kernel
theorem dX1_keep_50 : decode cX1_keep 50 = .ok (.getfield 39, 3) := by decide +kernel
theorem dX1_keep_53 : decode cX1_keep 53 = .ok (.ireturn, 1) := by decide +kernel
theorem dX1_on_0 : decode cX1_on 0 = .ok (.iload_n 1, 1) := by decide +kernel
theorem dX1_on_1 : decode cX1_on 1 = .ok (.invokestatic 156, 3) := by decide +kernel
theorem dX1_on_4 : decode cX1_on 4 = .ok (.ifCond .ne 5, 3) := by decide +kernel
theorem dX1_on_7 : decode cX1_on 7 = .ok (.iconst (-1), 1) := by decide +kernel
theorem dX1_on_8 : decode cX1_on 8 = .ok (.ireturn, 1) := by decide +kernel
theorem dX1_on_9 : decode cX1_on 9 = .ok (.aload_n 0, 1) := by decide +kernel
theorem dX1_on_10 : decode cX1_on 10 = .ok (.getfield 46, 3) := by decide +kernel
theorem dX1_on_13 : decode cX1_on 13 = .ok (.iload_n 1, 1) := by decide +kernel
theorem dX1_on_14 : decode cX1_on 14 = .ok (.iaload, 1) := by decide +kernel
theorem dX1_on_15 : decode cX1_on 15 = .ok (.iconst (-1), 1) := by decide +kernel
theorem dX1_on_16 : decode cX1_on 16 = .ok (.if_icmp .ne 9, 3) := by decide +kernel
theorem dX1_on_19 : decode cX1_on 19 = .ok (.aload_n 0, 1) := by decide +kernel
theorem dX1_on_20 : decode cX1_on 20 = .ok (.iconst 1, 1) := by decide +kernel
theorem dX1_on_21 : decode cX1_on 21 = .ok (.invokevirtual 72, 3) := by decide +kernel
theorem dX1_on_24 : decode cX1_on 24 = .ok (.ireturn, 1) := by decide +kernel
theorem dX1_on_25 : decode cX1_on 25 = .ok (.aload_n 0, 1) := by decide +kernel
theorem dX1_on_26 : decode cX1_on 26 = .ok (.getfield 43, 3) := by decide +kernel
theorem dX1_on_29 : decode cX1_on 29 = .ok (.iload_n 1, 1) := by decide +kernel
theorem dX1_on_30 : decode cX1_on 30 = .ok (.aaload, 1) := by decide +kernel
theorem dX1_on_31 : decode cX1_on 31 = .ok (.iconst 0, 1) := by decide +kernel
theorem dX1_on_32 : decode cX1_on 32 = .ok (.aload_n 0, 1) := by decide +kernel
theorem dX1_on_33 : decode cX1_on 33 = .ok (.getfield 36, 3) := by decide +kernel
theorem dX1_on_36 : decode cX1_on 36 = .ok (.iconst 0, 1) := by decide +kernel
theorem dX1_on_37 : decode cX1_on 37 = .ok (.bipush 40, 2) := by decide +kernel
theorem dX1_on_39 : decode cX1_on 39 = .ok (.invokestatic 88, 3) := by decide +kernel
theorem dX1_on_42 : decode cX1_on 42 = .ok (.aload_n 0, 1) := by decide +kernel
theorem dX1_on_43 : decode cX1_on 43 = .ok (.aload_n 0, 1) := by decide +kernel
theorem dX1_on_44 : decode cX1_on 44 = .ok (.getfield 46, 3) := by decide +kernel
theorem dX1_on_47 : decode cX1_on 47 = .ok (.iload_n 1, 1) := by decide +kernel
theorem dX1_on_48 : decode cX1_on 48 = .ok (.iaload, 1) := by decide +kernel
theorem dX1_on_49 : decode cX1_on 49 = .ok (.putfield 39, 3) := by decide +kernel
theorem dX1_on_52 : decode cX1_on 52 = .ok (.aload_n 0, 1) := by decide +kernel
theorem dX1_on_53 : decode cX1_on 53 = .ok (.invokevirtual 153, 3) := by decide +kernel
theorem dX1_on_56 : decode cX1_on 56 = .ok (.aload_n 0, 1) := by decide +kernel
theorem dX1_on_57 : decode cX1_on 57 = .ok (.getfield 39, 3) := by decide +kernel
theorem dX1_on_60 : decode cX1_on 60 = .ok (.ireturn, 1) := by decide +kernel
theorem dX1_later_0 : decode cX1_later 0 = .ok (.aload_n 0, 1) := by decide +kernel
theorem dX1_later_1 : decode cX1_later 1 = .ok (.getfield 29, 3) := by decide +kernel
theorem dX1_later_4 : decode cX1_later 4 = .ok (.iload_n 1, 1) := by decide +kernel
theorem dX1_later_5 : decode cX1_later 5 = .ok (.invokevirtual 111, 3) := by decide +kernel
theorem dX1_later_8 : decode cX1_later 8 = .ok (.ifCond .eq 13, 3) := by decide +kernel
theorem dX1_later_11 : decode cX1_later 11 = .ok (.iload_n 2, 1) := by decide +kernel
theorem dX1_later_12 : decode cX1_later 12 = .ok (.iconst 0, 1) := by decide +kernel
theorem dX1_later_13 : decode cX1_later 13 = .ok (.bipush 60, 2) := by decide +kernel
theorem dX1_later_15 : decode cX1_later 15 = .ok (.invokestatic 114, 3) := by decide +kernel
theorem dX1_later_18 : decode cX1_later 18 = .ok (.ifCond .ne 5, 3) := by decide +kernel
theorem dX1_later_21 : decode cX1_later 21 = .ok (.iconst (-1), 1) := by decide +kernel
theorem dX1_later_22 : decode cX1_later 22 = .ok (.ireturn, 1) := by decide +kernel
theorem dX1_later_23 : decode cX1_later 23 = .ok (.aload_n 0, 1) := by decide +kernel
theorem dX1_later_24 : decode cX1_later 24 = .ok (.getfield 33, 3) := by decide +kernel
theorem dX1_later_27 : decode cX1_later 27 = .ok (.aload_n 0, 1) := by decide +kernel
theorem dX1_later_28 : decode cX1_later 28 = .ok (.getfield 29, 3) := by decide +kernel
theorem dX1_later_31 : decode cX1_later 31 = .ok (.invokevirtual 104, 3) := by decide +kernel
theorem dX1_later_34 : decode cX1_later 34 = .ok (.aload_n 0, 1) := by decide +kernel
theorem dX1_later_35 : decode cX1_later 35 = .ok (.getfield 33, 3) := by decide +kernel
theorem dX1_later_38 : decode cX1_later 38 = .ok (.iload_n 2, 1) := by decide +kernel
theorem dX1_later_39 : decode cX1_later 39 = .ok (.invokevirtual 159, 3) := by decide +kernel
theorem dX1_later_42 : decode cX1_later 42 = .ok (.aload_n 0, 1) := by decide +kernel
theorem dX1_later_43 : decode cX1_later 43 = .ok (.aload_n 0, 1) := by decide +kernel
theorem dX1_later_44 : decode cX1_later 44 = .ok (.getfield 33, 3) := by decide +kernel
theorem dX1_later_47 : decode cX1_later 47 = .ok (.invokevirtual 137, 3) := by decide +kernel
theorem dX1_later_50 : decode cX1_later 50 = .ok (.putfield 58, 3) := by decide +kernel
theorem dX1_later_53 : decode cX1_later 53 = .ok (.aload_n 0, 1) := by decide +kernel
theorem dX1_later_54 : decode cX1_later 54 = .ok (.getfield 33, 3) := by decide +kernel
theorem dX1_later_57 : decode cX1_later 57 = .ok (.getfield 144, 3) := by decide +kernel
theorem dX1_later_60 : decode cX1_later 60 = .ok (.iload_n 1, 1) := by decide +kernel
theorem dX1_later_61 : decode cX1_later 61 = .ok (.iaload, 1) := by decide +kernel
theorem dX1_later_62 : decode cX1_later 62 = .ok (.ireturn, 1) := by decide +kernel
theorem dX1_hears_0 : decode cX1_hears 0 = .ok (.aload_n 0, 1) := by decide +kernel
theorem dX1_hears_1 : decode cX1_hears 1 = .ok (.getfield 29, 3) := by decide +kernel
theorem dX1_hears_4 : decode cX1_hears 4 = .ok (.iload_n 1, 1) := by decide +kernel
theorem dX1_hears_5 : decode cX1_hears 5 = .ok (.invokevirtual 111, 3) := by decide +kernel
theorem dX1_hears_8 : decode cX1_hears 8 = .ok (.ifCond .eq 20, 3) := by decide +kernel
theorem dX1_hears_11 : decode cX1_hears 11 = .ok (.iload_n 2, 1) := by decide +kernel
theorem dX1_hears_12 : decode cX1_hears 12 = .ok (.iconst 1, 1) := by decide +kernel
theorem dX1_hears_13 : decode cX1_hears 13 = .ok (.bipush 20, 2) := by decide +kernel
theorem dX1_hears_15 : decode cX1_hears 15 = .ok (.invokestatic 114, 3) := by decide +kernel
theorem dX1_hears_18 : decode cX1_hears 18 = .ok (.ifCond .eq 10, 3) := by decide +kernel
theorem dX1_hears_21 : decode cX1_hears 21 = .ok (.iload_n 3, 1) := by decide +kernel
theorem dX1_hears_22 : decode cX1_hears 22 = .ok (.invokestatic 68, 3) := by decide +kernel
theorem dX1_hears_25 : decode cX1_hears 25 = .ok (.ifCond .ne 5, 3) := by decide +kernel
theorem dX1_hears_28 : decode cX1_hears 28 = .ok (.iconst (-1), 1) := by decide +kernel
theorem dX1_hears_29 : decode cX1_hears 29 = .ok (.ireturn, 1) := by decide +kernel
theorem dX1_hears_30 : decode cX1_hears 30 = .ok (.aload_n 0, 1) := by decide +kernel
theorem dX1_hears_31 : decode cX1_hears 31 = .ok (.iload_n 3, 1) := by decide +kernel
theorem dX1_hears_32 : decode cX1_hears 32 = .ok (.iload_n 2, 1) := by decide +kernel
theorem dX1_hears_33 : decode cX1_hears 33 = .ok (.invokevirtual 76, 3) := by decide +kernel
theorem dX1_hears_36 : decode cX1_hears 36 = .ok (.aload_n 0, 1) := by decide +kernel
theorem dX1_hears_37 : decode cX1_hears 37 = .ok (.getfield 33, 3) := by decide +kernel
theorem dX1_hears_40 : decode cX1_hears 40 = .ok (.aload_n 0, 1) := by decide +kernel
theorem dX1_hears_41 : decode cX1_hears 41 = .ok (.getfield 29, 3) := by decide +kernel
theorem dX1_hears_44 : decode cX1_hears 44 = .ok (.invokevirtual 104, 3) := by decide +kernel
theorem dX1_hears_47 : decode cX1_hears 47 = .ok (.iconst 0, 1) := by decide +kernel
theorem dX1_hears_48 : decode cX1_hears 48 = .ok (.istore 4, 2) := by decide +kernel
theorem dX1_hears_50 : decode cX1_hears 50 = .ok (.iconst 0, 1) := by decide +kernel
theorem dX1_hears_51 : decode cX1_hears 51 = .ok (.istore 5, 2) := by decide +kernel
theorem dX1_hears_53 : decode cX1_hears 53 = .ok (.iload 5, 2) := by decide +kernel
theorem dX1_hears_55 : decode cX1_hears 55 = .ok (.iload_n 2, 1) := by decide +kernel
theorem dX1_hears_56 : decode cX1_hears 56 = .ok (.if_icmp .ge 62, 3) := by decide +kernel
theorem dX1_hears_59 : decode cX1_hears 59 = .ok (.aload_n 0, 1) := by decide +kernel
theorem dX1_hears_60 : decode cX1_hears 60 = .ok (.getfield 11, 3) := by decide +kernel
theorem dX1_hears_63 : decode cX1_hears 63 = .ok (.iload_n 3, 1) := by decide +kernel
theorem dX1_hears_64 : decode cX1_hears 64 = .ok (.aaload, 1) := by decide +kernel
theorem dX1_hears_65 : decode cX1_hears 65 = .ok (.iload 5, 2) := by decide +kernel
theorem dX1_hears_67 : decode cX1_hears 67 = .ok (.aload_n 0, 1) := by decide +kernel
theorem dX1_hears_68 : decode cX1_hears 68 = .ok (.getfield 33, 3) := by decide +kernel
theorem dX1_hears_71 : decode cX1_hears 71 = .ok (.iload_n 1, 1) := by decide +kernel
theorem dX1_hears_72 : decode cX1_hears 72 = .ok (.invokevirtual 163, 3) := by decide +kernel
theorem dX1_hears_75 : decode cX1_hears 75 = .ok (.ifCond .eq 14, 3) := by decide +kernel
theorem dX1_hears_78 : decode cX1_hears 78 = .ok (.aload_n 0, 1) := by decide +kernel
theorem dX1_hears_79 : decode cX1_hears 79 = .ok (.getfield 33, 3) := by decide +kernel
theorem dX1_hears_82 : decode cX1_hears 82 = .ok (.iload_n 1, 1) := by decide +kernel
theorem dX1_hears_83 : decode cX1_hears 83 = .ok (.invokevirtual 166, 3) := by decide +kernel
theorem dX1_hears_86 : decode cX1_hears 86 = .ok (.goto 4, 3) := by decide +kernel
theorem dX1_hears_89 : decode cX1_hears 89 = .ok (.iconst (-1), 1) := by decide +kernel
theorem dX1_hears_90 : decode cX1_hears 90 = .ok (.iastore, 1) := by decide +kernel
theorem dX1_hears_91 : decode cX1_hears 91 = .ok (.iload 4, 2) := by decide +kernel
theorem dX1_hears_93 : decode cX1_hears 93 = .ok (.aload_n 0, 1) := by decide +kernel
theorem dX1_hears_94 : decode cX1_hears 94 = .ok (.getfield 33, 3) := by decide +kernel
theorem dX1_hears_97 : decode cX1_hears 97 = .ok (.iload_n 1, 1) := by decide +kernel
theorem dX1_hears_98 : decode cX1_hears 98 = .ok (.invokevirtual 166, 3) := by decide +kernel
theorem dX1_hears_101 : decode cX1_hears 101 = .ok (.iadd, 1) := by decide +kernel
theorem dX1_hears_102 : decode cX1_hears 102 = .ok (.istore 4, 2) := by decide +kernel
theorem dX1_hears_104 : decode cX1_hears 104 = .ok (.aload_n 0, 1) := by decide +kernel
theorem dX1_hears_105 : decode cX1_hears 105 = .ok (.getfield 33, 3) := by decide +kernel
theorem dX1_hears_108 : decode cX1_hears 108 = .ok (.iconst 1, 1) := by decide +kernel
theorem dX1_hears_109 : decode cX1_hears 109 = .ok (.invokevirtual 159, 3) := by decide +kernel
theorem dX1_hears_112 : decode cX1_hears 112 = .ok (.iinc 5 1, 3) := by decide +kernel
theorem dX1_hears_115 : decode cX1_hears 115 = .ok (.goto (-62), 3) := by decide +kernel
theorem dX1_hears_118 : decode cX1_hears 118 = .ok (.iload 4, 2) := by decide +kernel
theorem dX1_hears_120 : decode cX1_hears 120 = .ok (.ireturn, 1) := by decide +kernel
theorem dX1_finds_0 : decode cX1_finds 0 = .ok (.aload_n 0, 1) := by decide +kernel
theorem dX1_finds_1 : decode cX1_finds 1 = .ok (.getfield 29, 3) := by decide +kernel
theorem dX1_finds_4 : decode cX1_finds 4 = .ok (.iload_n 1, 1) := by decide +kernel
theorem dX1_finds_5 : decode cX1_finds 5 = .ok (.invokevirtual 111, 3) := by decide +kernel
theorem dX1_finds_8 : decode cX1_finds 8 = .ok (.ifCond .eq 26, 3) := by decide +kernel
theorem dX1_finds_11 : decode cX1_finds 11 = .ok (.iload_n 3, 1) := by decide +kernel
theorem dX1_finds_12 : decode cX1_finds 12 = .ok (.iconst 1, 1) := by decide +kernel
theorem dX1_finds_13 : decode cX1_finds 13 = .ok (.bipush 8, 2) := by decide +kernel
theorem dX1_finds_15 : decode cX1_finds 15 = .ok (.invokestatic 114, 3) := by decide +kernel
theorem dX1_finds_18 : decode cX1_finds 18 = .ok (.ifCond .eq 16, 3) := by decide +kernel
theorem dX1_finds_21 : decode cX1_finds 21 = .ok (.iload_n 2, 1) := by decide +kernel
theorem dX1_finds_22 : decode cX1_finds 22 = .ok (.iconst 0, 1) := by decide +kernel
theorem dX1_finds_23 : decode cX1_finds 23 = .ok (.iconst 1, 1) := by decide +kernel
theorem dX1_finds_24 : decode cX1_finds 24 = .ok (.iload_n 3, 1) := by decide +kernel
theorem dX1_finds_25 : decode cX1_finds 25 = .ok (.ishl, 1) := by decide +kernel
theorem dX1_finds_26 : decode cX1_finds 26 = .ok (.iconst 1, 1) := by decide +kernel
theorem dX1_finds_27 : decode cX1_finds 27 = .ok (.isub, 1) := by decide +kernel
theorem dX1_finds_28 : decode cX1_finds 28 = .ok (.invokestatic 114, 3) := by decide +kernel
theorem dX1_finds_31 : decode cX1_finds 31 = .ok (.ifCond .ne 5, 3) := by decide +kernel
theorem dX1_finds_34 : decode cX1_finds 34 = .ok (.iconst (-1), 1) := by decide +kernel
theorem dX1_finds_35 : decode cX1_finds 35 = .ok (.ireturn, 1) := by decide +kernel
theorem dX1_finds_36 : decode cX1_finds 36 = .ok (.aload_n 0, 1) := by decide +kernel
theorem dX1_finds_37 : decode cX1_finds 37 = .ok (.getfield 33, 3) := by decide +kernel
theorem dX1_finds_40 : decode cX1_finds 40 = .ok (.aload_n 0, 1) := by decide +kernel
theorem dX1_finds_41 : decode cX1_finds 41 = .ok (.getfield 29, 3) := by decide +kernel
theorem dX1_finds_44 : decode cX1_finds 44 = .ok (.invokevirtual 104, 3) := by decide +kernel
theorem dX1_finds_47 : decode cX1_finds 47 = .ok (.iconst 0, 1) := by decide +kernel
theorem dX1_finds_48 : decode cX1_finds 48 = .ok (.istore 4, 2) := by decide +kernel
theorem dX1_finds_50 : decode cX1_finds 50 = .ok (.iconst 0, 1) := by decide +kernel
theorem dX1_finds_51 : decode cX1_finds 51 = .ok (.istore 5, 2) := by decide +kernel
theorem dX1_finds_53 : decode cX1_finds 53 = .ok (.iconst 0, 1) := by decide +kernel
theorem dX1_finds_54 : decode cX1_finds 54 = .ok (.istore 6, 2) := by decide +kernel
theorem dX1_finds_56 : decode cX1_finds 56 = .ok (.iconst 1, 1) := by decide +kernel
theorem dX1_finds_57 : decode cX1_finds 57 = .ok (.istore 7, 2) := by decide +kernel
theorem dX1_finds_59 : decode cX1_finds 59 = .ok (.iload 7, 2) := by decide +kernel
theorem dX1_finds_61 : decode cX1_finds 61 = .ok (.bipush 60, 2) := by decide +kernel
theorem dX1_finds_63 : decode cX1_finds 63 = .ok (.if_icmp .gt 82, 3) := by decide +kernel
theorem dX1_finds_66 : decode cX1_finds 66 = .ok (.aload_n 0, 1) := by decide +kernel
theorem dX1_finds_67 : decode cX1_finds 67 = .ok (.getfield 33, 3) := by decide +kernel
theorem dX1_finds_70 : decode cX1_finds 70 = .ok (.iload_n 1, 1) := by decide +kernel
theorem dX1_finds_71 : decode cX1_finds 71 = .ok (.invokevirtual 163, 3) := by decide +kernel
theorem dX1_finds_74 : decode cX1_finds 74 = .ok (.ifCond .eq 57, 3) := by decide +kernel
theorem dX1_finds_77 : decode cX1_finds 77 = .ok (.aload_n 0, 1) := by decide +kernel
theorem dX1_finds_78 : decode cX1_finds 78 = .ok (.getfield 33, 3) := by decide +kernel
theorem dX1_finds_81 : decode cX1_finds 81 = .ok (.iload_n 1, 1) := by decide +kernel
theorem dX1_finds_82 : decode cX1_finds 82 = .ok (.invokevirtual 166, 3) := by decide +kernel
theorem dX1_finds_85 : decode cX1_finds 85 = .ok (.istore 8, 2) := by decide +kernel
theorem dX1_finds_87 : decode cX1_finds 87 = .ok (.iload 6, 2) := by decide +kernel
theorem dX1_finds_89 : decode cX1_finds 89 = .ok (.iconst 1, 1) := by decide +kernel
theorem dX1_finds_90 : decode cX1_finds 90 = .ok (.ishr, 1) := by decide +kernel
theorem dX1_finds_91 : decode cX1_finds 91 = .ok (.iload 8, 2) := by decide +kernel
theorem dX1_finds_93 : decode cX1_finds 93 = .ok (.iload_n 3, 1) := by decide +kernel
theorem dX1_finds_94 : decode cX1_finds 94 = .ok (.iconst 1, 1) := by decide +kernel
theorem dX1_finds_95 : decode cX1_finds 95 = .ok (.isub, 1) := by decide +kernel
theorem dX1_finds_96 : decode cX1_finds 96 = .ok (.ishl, 1) := by decide +kernel
theorem dX1_finds_97 : decode cX1_finds 97 = .ok (.ior, 1) := by decide +kernel
theorem dX1_finds_98 : decode cX1_finds 98 = .ok (.istore 6, 2) := by decide +kernel
theorem dX1_finds_100 : decode cX1_finds 100 = .ok (.iinc 4 1, 3) := by decide +kernel
theorem dX1_finds_103 : decode cX1_finds 103 = .ok (.iload 5, 2) := by decide +kernel
theorem dX1_finds_105 : decode cX1_finds 105 = .ok (.iload 8, 2) := by decide +kernel
theorem dX1_finds_107 : decode cX1_finds 107 = .ok (.iadd, 1) := by decide +kernel
theorem dX1_finds_108 : decode cX1_finds 108 = .ok (.istore 5, 2) := by decide +kernel
theorem dX1_finds_110 : decode cX1_finds 110 = .ok (.iload 4, 2) := by decide +kernel
theorem dX1_finds_112 : decode cX1_finds 112 = .ok (.iload_n 3, 1) := by decide +kernel
theorem dX1_finds_113 : decode cX1_finds 113 = .ok (.if_icmp .lt 18, 3) := by decide +kernel
theorem dX1_finds_116 : decode cX1_finds 116 = .ok (.iload 6, 2) := by decide +kernel
theorem dX1_finds_118 : decode cX1_finds 118 = .ok (.iload_n 2, 1) := by decide +kernel
theorem dX1_finds_119 : decode cX1_finds 119 = .ok (.if_icmp .ne 12, 3) := by decide +kernel
theorem dX1_finds_122 : decode cX1_finds 122 = .ok (.aload_n 0, 1) := by decide +kernel
theorem dX1_finds_123 : decode cX1_finds 123 = .ok (.iload 5, 2) := by decide +kernel
theorem dX1_finds_125 : decode cX1_finds 125 = .ok (.putfield 58, 3) := by decide +kernel
theorem dX1_finds_128 : decode cX1_finds 128 = .ok (.iload 7, 2) := by decide +kernel
theorem dX1_finds_130 : decode cX1_finds 130 = .ok (.ireturn, 1) := by decide +kernel
theorem dX1_finds_131 : decode cX1_finds 131 = .ok (.aload_n 0, 1) := by decide +kernel
theorem dX1_finds_132 : decode cX1_finds 132 = .ok (.getfield 33, 3) := by decide +kernel
theorem dX1_finds_135 : decode cX1_finds 135 = .ok (.iconst 1, 1) := by decide +kernel
theorem dX1_finds_136 : decode cX1_finds 136 = .ok (.invokevirtual 159, 3) := by decide +kernel
theorem dX1_finds_139 : decode cX1_finds 139 = .ok (.iinc 7 1, 3) := by decide +kernel
theorem dX1_finds_142 : decode cX1_finds 142 = .ok (.goto (-83), 3) := by decide +kernel
theorem dX1_finds_145 : decode cX1_finds 145 = .ok (.bipush (-9), 2) := by decide +kernel
theorem dX1_finds_147 : decode cX1_finds 147 = .ok (.ireturn, 1) := by decide +kernel
theorem dX1_round_0 : decode cX1_round 0 = .ok (.aload_n 0, 1) := by decide +kernel
theorem dX1_round_1 : decode cX1_round 1 = .ok (.getfield 29, 3) := by decide +kernel
theorem dX1_round_4 : decode cX1_round 4 = .ok (.getfield 108, 3) := by decide +kernel
theorem dX1_round_7 : decode cX1_round 7 = .ok (.ifCond .ne 6, 3) := by decide +kernel
theorem dX1_round_10 : decode cX1_round 10 = .ok (.bipush (-4), 2) := by decide +kernel
theorem dX1_round_12 : decode cX1_round 12 = .ok (.ireturn, 1) := by decide +kernel
theorem dX1_round_13 : decode cX1_round 13 = .ok (.aload_n 0, 1) := by decide +kernel
theorem dX1_round_14 : decode cX1_round 14 = .ok (.getfield 33, 3) := by decide +kernel
theorem dX1_round_17 : decode cX1_round 17 = .ok (.aload_n 0, 1) := by decide +kernel
theorem dX1_round_18 : decode cX1_round 18 = .ok (.getfield 29, 3) := by decide +kernel
theorem dX1_round_21 : decode cX1_round 21 = .ok (.invokevirtual 104, 3) := by decide +kernel
theorem dX1_round_24 : decode cX1_round 24 = .ok (.aload_n 0, 1) := by decide +kernel
theorem dX1_round_25 : decode cX1_round 25 = .ok (.getfield 33, 3) := by decide +kernel
theorem dX1_round_28 : decode cX1_round 28 = .ok (.invokevirtual 137, 3) := by decide +kernel
theorem dX1_round_31 : decode cX1_round 31 = .ok (.istore_n 1, 1) := by decide +kernel
theorem dX1_round_32 : decode cX1_round 32 = .ok (.iconst 1, 1) := by decide +kernel
theorem dX1_round_33 : decode cX1_round 33 = .ok (.istore_n 2, 1) := by decide +kernel
theorem dX1_round_34 : decode cX1_round 34 = .ok (.iload_n 2, 1) := by decide +kernel
theorem dX1_round_35 : decode cX1_round 35 = .ok (.bipush 120, 2) := by decide +kernel
theorem dX1_round_37 : decode cX1_round 37 = .ok (.if_icmp .gt 50, 3) := by decide +kernel
theorem dX1_round_40 : decode cX1_round 40 = .ok (.aload_n 0, 1) := by decide +kernel
theorem dX1_round_41 : decode cX1_round 41 = .ok (.getfield 33, 3) := by decide +kernel
theorem dX1_round_44 : decode cX1_round 44 = .ok (.iconst 1, 1) := by decide +kernel
theorem dX1_round_45 : decode cX1_round 45 = .ok (.invokevirtual 159, 3) := by decide +kernel
theorem dX1_round_48 : decode cX1_round 48 = .ok (.iload_n 1, 1) := by decide +kernel
theorem dX1_round_49 : decode cX1_round 49 = .ok (.aload_n 0, 1) := by decide +kernel
theorem dX1_round_50 : decode cX1_round 50 = .ok (.getfield 33, 3) := by decide +kernel
theorem dX1_round_53 : decode cX1_round 53 = .ok (.invokevirtual 137, 3) := by decide +kernel
theorem dX1_round_56 : decode cX1_round 56 = .ok (.invokestatic 169, 3) := by decide +kernel
theorem dX1_round_59 : decode cX1_round 59 = .ok (.istore_n 1, 1) := by decide +kernel
theorem dX1_round_60 : decode cX1_round 60 = .ok (.aload_n 0, 1) := by decide +kernel
theorem dX1_round_61 : decode cX1_round 61 = .ok (.getfield 33, 3) := by decide +kernel
theorem dX1_round_64 : decode cX1_round 64 = .ok (.aload_n 0, 1) := by decide +kernel
theorem dX1_round_65 : decode cX1_round 65 = .ok (.getfield 29, 3) := by decide +kernel
theorem dX1_round_68 : decode cX1_round 68 = .ok (.invokevirtual 174, 3) := by decide +kernel
theorem dX1_round_71 : decode cX1_round 71 = .ok (.ifCond .eq 10, 3) := by decide +kernel
theorem dX1_round_74 : decode cX1_round 74 = .ok (.aload_n 0, 1) := by decide +kernel
theorem dX1_round_75 : decode cX1_round 75 = .ok (.iload_n 1, 1) := by decide +kernel
theorem dX1_round_76 : decode cX1_round 76 = .ok (.putfield 58, 3) := by decide +kernel
theorem dX1_round_79 : decode cX1_round 79 = .ok (.iload_n 2, 1) := by decide +kernel
theorem dX1_round_80 : decode cX1_round 80 = .ok (.ireturn, 1) := by decide +kernel
theorem dX1_round_81 : decode cX1_round 81 = .ok (.iinc 2 1, 3) := by decide +kernel
theorem dX1_round_84 : decode cX1_round 84 = .ok (.goto (-50), 3) := by decide +kernel
theorem dX1_round_87 : decode cX1_round 87 = .ok (.bipush (-9), 2) := by decide +kernel
theorem dX1_round_89 : decode cX1_round 89 = .ok (.ireturn, 1) := by decide +kernel
theorem dX1_left_0 : decode cX1_left 0 = .ok (.iload_n 1, 1) := by decide +kernel
theorem dX1_left_1 : decode cX1_left 1 = .ok (.iconst 0, 1) := by decide +kernel
theorem dX1_left_2 : decode cX1_left 2 = .ok (.bipush 60, 2) := by decide +kernel
theorem dX1_left_4 : decode cX1_left 4 = .ok (.invokestatic 114, 3) := by decide +kernel
theorem dX1_left_7 : decode cX1_left 7 = .ok (.ifCond .ne 5, 3) := by decide +kernel
theorem dX1_left_10 : decode cX1_left 10 = .ok (.iconst (-1), 1) := by decide +kernel
theorem dX1_left_11 : decode cX1_left 11 = .ok (.ireturn, 1) := by decide +kernel
theorem dX1_left_12 : decode cX1_left 12 = .ok (.aload_n 0, 1) := by decide +kernel
theorem dX1_left_13 : decode cX1_left 13 = .ok (.getfield 29, 3) := by decide +kernel
theorem dX1_left_16 : decode cX1_left 16 = .ok (.getfield 108, 3) := by decide +kernel
theorem dX1_left_19 : decode cX1_left 19 = .ok (.ifCond .ne 6, 3) := by decide +kernel
theorem dX1_left_22 : decode cX1_left 22 = .ok (.bipush (-4), 2) := by decide +kernel
theorem dX1_left_24 : decode cX1_left 24 = .ok (.ireturn, 1) := by decide +kernel
theorem dX1_left_25 : decode cX1_left 25 = .ok (.aload_n 0, 1) := by decide +kernel
theorem dX1_left_26 : decode cX1_left 26 = .ok (.getfield 33, 3) := by decide +kernel
theorem dX1_left_29 : decode cX1_left 29 = .ok (.aload_n 0, 1) := by decide +kernel
theorem dX1_left_30 : decode cX1_left 30 = .ok (.getfield 29, 3) := by decide +kernel
theorem dX1_left_33 : decode cX1_left 33 = .ok (.invokevirtual 104, 3) := by decide +kernel
theorem dX1_left_36 : decode cX1_left 36 = .ok (.aload_n 0, 1) := by decide +kernel
theorem dX1_left_37 : decode cX1_left 37 = .ok (.getfield 33, 3) := by decide +kernel
theorem dX1_left_40 : decode cX1_left 40 = .ok (.iload_n 1, 1) := by decide +kernel
theorem dX1_left_41 : decode cX1_left 41 = .ok (.invokevirtual 159, 3) := by decide +kernel
theorem dX1_left_44 : decode cX1_left 44 = .ok (.aload_n 0, 1) := by decide +kernel
theorem dX1_left_45 : decode cX1_left 45 = .ok (.aload_n 0, 1) := by decide +kernel
theorem dX1_left_46 : decode cX1_left 46 = .ok (.getfield 33, 3) := by decide +kernel
theorem dX1_left_49 : decode cX1_left 49 = .ok (.invokevirtual 178, 3) := by decide +kernel
theorem dX1_left_52 : decode cX1_left 52 = .ok (.invokestatic 181, 3) := by decide +kernel
theorem dX1_left_55 : decode cX1_left 55 = .ok (.putfield 58, 3) := by decide +kernel
theorem dX1_left_58 : decode cX1_left 58 = .ok (.aload_n 0, 1) := by decide +kernel
theorem dX1_left_59 : decode cX1_left 59 = .ok (.getfield 33, 3) := by decide +kernel
theorem dX1_left_62 : decode cX1_left 62 = .ok (.invokevirtual 137, 3) := by decide +kernel
theorem dX1_left_65 : decode cX1_left 65 = .ok (.ireturn, 1) := by decide +kernel
theorem dX1_best_0 : decode cX1_best 0 = .ok (.iload_n 1, 1) := by decide +kernel
theorem dX1_best_1 : decode cX1_best 1 = .ok (.iconst 1, 1) := by decide +kernel
theorem dX1_best_2 : decode cX1_best 2 = .ok (.bipush 40, 2) := by decide +kernel
theorem dX1_best_4 : decode cX1_best 4 = .ok (.invokestatic 114, 3) := by decide +kernel
theorem dX1_best_7 : decode cX1_best 7 = .ok (.ifCond .ne 5, 3) := by decide +kernel
theorem dX1_best_10 : decode cX1_best 10 = .ok (.iconst (-1), 1) := by decide +kernel
theorem dX1_best_11 : decode cX1_best 11 = .ok (.ireturn, 1) := by decide +kernel
theorem dX1_best_12 : decode cX1_best 12 = .ok (.aload_n 0, 1) := by decide +kernel
theorem dX1_best_13 : decode cX1_best 13 = .ok (.getfield 29, 3) := by decide +kernel
theorem dX1_best_16 : decode cX1_best 16 = .ok (.getfield 108, 3) := by decide +kernel
theorem dX1_best_19 : decode cX1_best 19 = .ok (.ifCond .ne 6, 3) := by decide +kernel
theorem dX1_best_22 : decode cX1_best 22 = .ok (.bipush (-4), 2) := by decide +kernel
theorem dX1_best_24 : decode cX1_best 24 = .ok (.ireturn, 1) := by decide +kernel
theorem dX1_best_25 : decode cX1_best 25 = .ok (.aload_n 0, 1) := by decide +kernel
theorem dX1_best_26 : decode cX1_best 26 = .ok (.getfield 33, 3) := by decide +kernel
theorem dX1_best_29 : decode cX1_best 29 = .ok (.aload_n 0, 1) := by decide +kernel
theorem dX1_best_30 : decode cX1_best 30 = .ok (.getfield 29, 3) := by decide +kernel
theorem dX1_best_33 : decode cX1_best 33 = .ok (.invokevirtual 104, 3) := by decide +kernel
theorem dX1_best_36 : decode cX1_best 36 = .ok (.aload_n 0, 1) := by decide +kernel
theorem dX1_best_37 : decode cX1_best 37 = .ok (.getfield 33, 3) := by decide +kernel
theorem dX1_best_40 : decode cX1_best 40 = .ok (.iload_n 1, 1) := by decide +kernel
theorem dX1_best_41 : decode cX1_best 41 = .ok (.invokevirtual 159, 3) := by decide +kernel
theorem dX1_best_44 : decode cX1_best 44 = .ok (.aload_n 0, 1) := by decide +kernel
theorem dX1_best_45 : decode cX1_best 45 = .ok (.getfield 33, 3) := by decide +kernel
theorem dX1_best_48 : decode cX1_best 48 = .ok (.invokevirtual 137, 3) := by decide +kernel
theorem dX1_best_51 : decode cX1_best 51 = .ok (.istore_n 2, 1) := by decide +kernel
theorem dX1_best_52 : decode cX1_best 52 = .ok (.bipush (-9), 2) := by decide +kernel
theorem dX1_best_54 : decode cX1_best 54 = .ok (.istore_n 3, 1) := by decide +kernel
theorem dX1_best_55 : decode cX1_best 55 = .ok (.iconst 0, 1) := by decide +kernel
theorem dX1_best_56 : decode cX1_best 56 = .ok (.istore 4, 2) := by decide +kernel
theorem dX1_best_58 : decode cX1_best 58 = .ok (.iload 4, 2) := by decide +kernel
theorem dX1_best_60 : decode cX1_best 60 = .ok (.aload_n 0, 1) := by decide +kernel
theorem dX1_best_61 : decode cX1_best 61 = .ok (.getfield 29, 3) := by decide +kernel
theorem dX1_best_64 : decode cX1_best 64 = .ok (.getfield 108, 3) := by decide +kernel
theorem dX1_best_67 : decode cX1_best 67 = .ok (.if_icmp .ge 91, 3) := by decide +kernel
theorem dX1_best_70 : decode cX1_best 70 = .ok (.iload 4, 2) := by decide +kernel
theorem dX1_best_72 : decode cX1_best 72 = .ok (.iconst 1, 1) := by decide +kernel
theorem dX1_best_73 : decode cX1_best 73 = .ok (.iadd, 1) := by decide +kernel
theorem dX1_best_74 : decode cX1_best 74 = .ok (.istore 5, 2) := by decide +kernel
theorem dX1_best_76 : decode cX1_best 76 = .ok (.iload 5, 2) := by decide +kernel
theorem dX1_best_78 : decode cX1_best 78 = .ok (.aload_n 0, 1) := by decide +kernel
theorem dX1_best_79 : decode cX1_best 79 = .ok (.getfield 29, 3) := by decide +kernel
theorem dX1_best_82 : decode cX1_best 82 = .ok (.getfield 108, 3) := by decide +kernel
theorem dX1_best_85 : decode cX1_best 85 = .ok (.if_icmp .ge 67, 3) := by decide +kernel
theorem dX1_best_88 : decode cX1_best 88 = .ok (.aload_n 0, 1) := by decide +kernel
theorem dX1_best_89 : decode cX1_best 89 = .ok (.getfield 33, 3) := by decide +kernel
theorem dX1_best_92 : decode cX1_best 92 = .ok (.aload_n 0, 1) := by decide +kernel
theorem dX1_best_93 : decode cX1_best 93 = .ok (.getfield 29, 3) := by decide +kernel
theorem dX1_best_96 : decode cX1_best 96 = .ok (.invokevirtual 104, 3) := by decide +kernel
theorem dX1_best_99 : decode cX1_best 99 = .ok (.aload_n 0, 1) := by decide +kernel
theorem dX1_best_100 : decode cX1_best 100 = .ok (.getfield 33, 3) := by decide +kernel
theorem dX1_best_103 : decode cX1_best 103 = .ok (.iload 4, 2) := by decide +kernel
theorem dX1_best_105 : decode cX1_best 105 = .ok (.iload 5, 2) := by decide +kernel
theorem dX1_best_107 : decode cX1_best 107 = .ok (.invokevirtual 186, 3) := by decide +kernel
theorem dX1_best_110 : decode cX1_best 110 = .ok (.aload_n 0, 1) := by decide +kernel
theorem dX1_best_111 : decode cX1_best 111 = .ok (.getfield 33, 3) := by decide +kernel
theorem dX1_best_114 : decode cX1_best 114 = .ok (.iload_n 1, 1) := by decide +kernel
theorem dX1_best_115 : decode cX1_best 115 = .ok (.invokevirtual 159, 3) := by decide +kernel
theorem dX1_best_118 : decode cX1_best 118 = .ok (.aload_n 0, 1) := by decide +kernel
theorem dX1_best_119 : decode cX1_best 119 = .ok (.getfield 33, 3) := by decide +kernel
theorem dX1_best_122 : decode cX1_best 122 = .ok (.invokevirtual 137, 3) := by decide +kernel
theorem dX1_best_125 : decode cX1_best 125 = .ok (.iload_n 2, 1) := by decide +kernel
theorem dX1_best_126 : decode cX1_best 126 = .ok (.if_icmp .le 20, 3) := by decide +kernel
theorem dX1_best_129 : decode cX1_best 129 = .ok (.aload_n 0, 1) := by decide +kernel
theorem dX1_best_130 : decode cX1_best 130 = .ok (.getfield 33, 3) := by decide +kernel
theorem dX1_best_133 : decode cX1_best 133 = .ok (.invokevirtual 137, 3) := by decide +kernel
theorem dX1_best_136 : decode cX1_best 136 = .ok (.istore_n 2, 1) := by decide +kernel
theorem dX1_best_137 : decode cX1_best 137 = .ok (.bipush 10, 2) := by decide +kernel
theorem dX1_best_139 : decode cX1_best 139 = .ok (.iload 4, 2) := by decide +kernel
theorem dX1_best_141 : decode cX1_best 141 = .ok (.imul, 1) := by decide +kernel
theorem dX1_best_142 : decode cX1_best 142 = .ok (.iload 5, 2) := by decide +kernel
theorem dX1_best_144 : decode cX1_best 144 = .ok (.iadd, 1) := by decide +kernel
theorem dX1_best_145 : decode cX1_best 145 = .ok (.istore_n 3, 1) := by decide +kernel
theorem dX1_best_146 : decode cX1_best 146 = .ok (.iinc 5 1, 3) := by decide +kernel
theorem dX1_best_149 : decode cX1_best 149 = .ok (.goto (-73), 3) := by decide +kernel
theorem dX1_best_152 : decode cX1_best 152 = .ok (.iinc 4 1, 3) := by decide +kernel
theorem dX1_best_155 : decode cX1_best 155 = .ok (.goto (-97), 3) := by decide +kernel
theorem dX1_best_158 : decode cX1_best 158 = .ok (.iload_n 3, 1) := by decide +kernel
theorem dX1_best_159 : decode cX1_best 159 = .ok (.bipush (-9), 2) := by decide +kernel
theorem dX1_best_161 : decode cX1_best 161 = .ok (.if_icmp .eq 8, 3) := by decide +kernel
theorem dX1_best_164 : decode cX1_best 164 = .ok (.aload_n 0, 1) := by decide +kernel
theorem dX1_best_165 : decode cX1_best 165 = .ok (.iload_n 2, 1) := by decide +kernel
theorem dX1_best_166 : decode cX1_best 166 = .ok (.putfield 58, 3) := by decide +kernel
theorem dX1_best_169 : decode cX1_best 169 = .ok (.iload_n 3, 1) := by decide +kernel
theorem dX1_best_170 : decode cX1_best 170 = .ok (.ireturn, 1) := by decide +kernel
theorem dX1_safest_0 : decode cX1_safest 0 = .ok (.iload_n 1, 1) := by decide +kernel
theorem dX1_safest_1 : decode cX1_safest 1 = .ok (.iconst 0, 1) := by decide +kernel
theorem dX1_safest_2 : decode cX1_safest 2 = .ok (.sipush 511, 3) := by decide +kernel
theorem dX1_safest_5 : decode cX1_safest 5 = .ok (.invokestatic 114, 3) := by decide +kernel
theorem dX1_safest_8 : decode cX1_safest 8 = .ok (.ifCond .ne 5, 3) := by decide +kernel
theorem dX1_safest_11 : decode cX1_safest 11 = .ok (.iconst (-1), 1) := by decide +kernel
theorem dX1_safest_12 : decode cX1_safest 12 = .ok (.ireturn, 1) := by decide +kernel
theorem dX1_safest_13 : decode cX1_safest 13 = .ok (.aload_n 0, 1) := by decide +kernel
theorem dX1_safest_14 : decode cX1_safest 14 = .ok (.getfield 29, 3) := by decide +kernel
theorem dX1_safest_17 : decode cX1_safest 17 = .ok (.getfield 108, 3) := by decide +kernel
theorem dX1_safest_20 : decode cX1_safest 20 = .ok (.ifCond .ne 6, 3) := by decide +kernel
theorem dX1_safest_23 : decode cX1_safest 23 = .ok (.bipush (-4), 2) := by decide +kernel
theorem dX1_safest_25 : decode cX1_safest 25 = .ok (.ireturn, 1) := by decide +kernel
theorem dX1_safest_26 : decode cX1_safest 26 = .ok (.bipush 61, 2) := by decide +kernel
theorem dX1_safest_28 : decode cX1_safest 28 = .ok (.istore_n 2, 1) := by decide +kernel
theorem dX1_safest_29 : decode cX1_safest 29 = .ok (.bipush (-9), 2) := by decide +kernel
theorem dX1_safest_31 : decode cX1_safest 31 = .ok (.istore_n 3, 1) := by decide +kernel
theorem dX1_safest_32 : decode cX1_safest 32 = .ok (.iconst 0, 1) := by decide +kernel
theorem dX1_safest_33 : decode cX1_safest 33 = .ok (.istore 4, 2) := by decide +kernel
theorem dX1_safest_35 : decode cX1_safest 35 = .ok (.iload 4, 2) := by decide +kernel
theorem dX1_safest_37 : decode cX1_safest 37 = .ok (.aload_n 0, 1) := by decide +kernel
theorem dX1_safest_38 : decode cX1_safest 38 = .ok (.getfield 29, 3) := by decide +kernel
theorem dX1_safest_41 : decode cX1_safest 41 = .ok (.getfield 108, 3) := by decide +kernel
theorem dX1_safest_44 : decode cX1_safest 44 = .ok (.if_icmp .ge 48, 3) := by decide +kernel
theorem dX1_safest_47 : decode cX1_safest 47 = .ok (.aload_n 0, 1) := by decide +kernel
theorem dX1_safest_48 : decode cX1_safest 48 = .ok (.getfield 29, 3) := by decide +kernel
theorem dX1_safest_51 : decode cX1_safest 51 = .ok (.iload 4, 2) := by decide +kernel
theorem dX1_safest_53 : decode cX1_safest 53 = .ok (.iload_n 1, 1) := by decide +kernel
theorem dX1_safest_54 : decode cX1_safest 54 = .ok (.invokevirtual 150, 3) := by decide +kernel
theorem dX1_safest_57 : decode cX1_safest 57 = .ok (.ifCond .eq 13, 3) := by decide +kernel
theorem dX1_safest_60 : decode cX1_safest 60 = .ok (.aload_n 0, 1) := by decide +kernel
theorem dX1_safest_61 : decode cX1_safest 61 = .ok (.iload 4, 2) := by decide +kernel
theorem dX1_safest_63 : decode cX1_safest 63 = .ok (.iload_n 1, 1) := by decide +kernel
theorem dX1_safest_64 : decode cX1_safest 64 = .ok (.invokevirtual 189, 3) := by decide +kernel
theorem dX1_safest_67 : decode cX1_safest 67 = .ok (.goto 5, 3) := by decide +kernel
theorem dX1_safest_70 : decode cX1_safest 70 = .ok (.bipush 61, 2) := by decide +kernel
theorem dX1_safest_72 : decode cX1_safest 72 = .ok (.istore 5, 2) := by decide +kernel
theorem dX1_safest_74 : decode cX1_safest 74 = .ok (.iload 5, 2) := by decide +kernel
theorem dX1_safest_76 : decode cX1_safest 76 = .ok (.iload_n 2, 1) := by decide +kernel
theorem dX1_safest_77 : decode cX1_safest 77 = .ok (.if_icmp .ge 9, 3) := by decide +kernel
theorem dX1_safest_80 : decode cX1_safest 80 = .ok (.iload 5, 2) := by decide +kernel
theorem dX1_safest_82 : decode cX1_safest 82 = .ok (.istore_n 2, 1) := by decide +kernel
theorem dX1_safest_83 : decode cX1_safest 83 = .ok (.iload 4, 2) := by decide +kernel
theorem dX1_safest_85 : decode cX1_safest 85 = .ok (.istore_n 3, 1) := by decide +kernel
theorem dX1_safest_86 : decode cX1_safest 86 = .ok (.iinc 4 1, 3) := by decide +kernel
theorem dX1_safest_89 : decode cX1_safest 89 = .ok (.goto (-54), 3) := by decide +kernel
theorem dX1_safest_92 : decode cX1_safest 92 = .ok (.iload_n 3, 1) := by decide +kernel
theorem dX1_safest_93 : decode cX1_safest 93 = .ok (.bipush (-9), 2) := by decide +kernel
theorem dX1_safest_95 : decode cX1_safest 95 = .ok (.if_icmp .eq 8, 3) := by decide +kernel
theorem dX1_safest_98 : decode cX1_safest 98 = .ok (.aload_n 0, 1) := by decide +kernel
theorem dX1_safest_99 : decode cX1_safest 99 = .ok (.iload_n 2, 1) := by decide +kernel
theorem dX1_safest_100 : decode cX1_safest 100 = .ok (.putfield 58, 3) := by decide +kernel
theorem dX1_safest_103 : decode cX1_safest 103 = .ok (.iload_n 3, 1) := by decide +kernel
theorem dX1_safest_104 : decode cX1_safest 104 = .ok (.ireturn, 1) := by decide +kernel
theorem dX1_kinds_0 : decode cX1_kinds 0 = .ok (.aload_n 0, 1) := by decide +kernel
theorem dX1_kinds_1 : decode cX1_kinds 1 = .ok (.getfield 29, 3) := by decide +kernel
theorem dX1_kinds_4 : decode cX1_kinds 4 = .ok (.iload_n 1, 1) := by decide +kernel
theorem dX1_kinds_5 : decode cX1_kinds 5 = .ok (.invokevirtual 111, 3) := by decide +kernel
theorem dX1_kinds_8 : decode cX1_kinds 8 = .ok (.ifCond .eq 10, 3) := by decide +kernel
theorem dX1_kinds_11 : decode cX1_kinds 11 = .ok (.iload_n 2, 1) := by decide +kernel
theorem dX1_kinds_12 : decode cX1_kinds 12 = .ok (.invokestatic 68, 3) := by decide +kernel
theorem dX1_kinds_15 : decode cX1_kinds 15 = .ok (.ifCond .ne 5, 3) := by decide +kernel
theorem dX1_kinds_18 : decode cX1_kinds 18 = .ok (.iconst (-1), 1) := by decide +kernel
theorem dX1_kinds_19 : decode cX1_kinds 19 = .ok (.ireturn, 1) := by decide +kernel
theorem dX1_kinds_20 : decode cX1_kinds 20 = .ok (.aload_n 0, 1) := by decide +kernel
theorem dX1_kinds_21 : decode cX1_kinds 21 = .ok (.iload_n 2, 1) := by decide +kernel
theorem dX1_kinds_22 : decode cX1_kinds 22 = .ok (.invokevirtual 192, 3) := by decide +kernel
theorem dX1_kinds_25 : decode cX1_kinds 25 = .ok (.istore_n 3, 1) := by decide +kernel
theorem dX1_kinds_26 : decode cX1_kinds 26 = .ok (.iload_n 3, 1) := by decide +kernel
theorem dX1_kinds_27 : decode cX1_kinds 27 = .ok (.ifCond .eq 11, 3) := by decide +kernel
theorem dX1_kinds_30 : decode cX1_kinds 30 = .ok (.aload_n 0, 1) := by decide +kernel
theorem dX1_kinds_31 : decode cX1_kinds 31 = .ok (.iload_n 3, 1) := by decide +kernel
theorem dX1_kinds_32 : decode cX1_kinds 32 = .ok (.invokevirtual 72, 3) := by decide +kernel
theorem dX1_kinds_35 : decode cX1_kinds 35 = .ok (.goto 9, 3) := by decide +kernel
theorem dX1_kinds_38 : decode cX1_kinds 38 = .ok (.aload_n 0, 1) := by decide +kernel
theorem dX1_kinds_39 : decode cX1_kinds 39 = .ok (.iload_n 1, 1) := by decide +kernel
theorem dX1_kinds_40 : decode cX1_kinds 40 = .ok (.iload_n 2, 1) := by decide +kernel
theorem dX1_kinds_41 : decode cX1_kinds 41 = .ok (.invokevirtual 195, 3) := by decide +kernel
theorem dX1_kinds_44 : decode cX1_kinds 44 = .ok (.ireturn, 1) := by decide +kernel
theorem dX1_words_0 : decode cX1_words 0 = .ok (.aload_n 0, 1) := by decide +kernel
theorem dX1_words_1 : decode cX1_words 1 = .ok (.getfield 29, 3) := by decide +kernel
theorem dX1_words_4 : decode cX1_words 4 = .ok (.iload_n 1, 1) := by decide +kernel
theorem dX1_words_5 : decode cX1_words 5 = .ok (.invokevirtual 111, 3) := by decide +kernel
theorem dX1_words_8 : decode cX1_words 8 = .ok (.ifCond .eq 10, 3) := by decide +kernel
theorem dX1_words_11 : decode cX1_words 11 = .ok (.iload_n 2, 1) := by decide +kernel
theorem dX1_words_12 : decode cX1_words 12 = .ok (.invokestatic 68, 3) := by decide +kernel
theorem dX1_words_15 : decode cX1_words 15 = .ok (.ifCond .ne 5, 3) := by decide +kernel
theorem dX1_words_18 : decode cX1_words 18 = .ok (.iconst (-1), 1) := by decide +kernel
theorem dX1_words_19 : decode cX1_words 19 = .ok (.ireturn, 1) := by decide +kernel
theorem dX1_words_20 : decode cX1_words 20 = .ok (.aload_n 0, 1) := by decide +kernel
theorem dX1_words_21 : decode cX1_words 21 = .ok (.iload_n 2, 1) := by decide +kernel
theorem dX1_words_22 : decode cX1_words 22 = .ok (.invokevirtual 192, 3) := by decide +kernel
theorem dX1_words_25 : decode cX1_words 25 = .ok (.istore_n 3, 1) := by decide +kernel
theorem dX1_words_26 : decode cX1_words 26 = .ok (.iload_n 3, 1) := by decide +kernel
theorem dX1_words_27 : decode cX1_words 27 = .ok (.ifCond .eq 9, 3) := by decide +kernel
theorem dX1_words_30 : decode cX1_words 30 = .ok (.aload_n 0, 1) := by decide +kernel
theorem dX1_words_31 : decode cX1_words 31 = .ok (.iload_n 3, 1) := by decide +kernel
theorem dX1_words_32 : decode cX1_words 32 = .ok (.invokevirtual 72, 3) := by decide +kernel
theorem dX1_words_35 : decode cX1_words 35 = .ok (.ireturn, 1) := by decide +kernel
theorem dX1_words_36 : decode cX1_words 36 = .ok (.iconst 0, 1) := by decide +kernel
theorem dX1_words_37 : decode cX1_words 37 = .ok (.istore 4, 2) := by decide +kernel
theorem dX1_words_39 : decode cX1_words 39 = .ok (.iconst 0, 1) := by decide +kernel
theorem dX1_words_40 : decode cX1_words 40 = .ok (.istore 5, 2) := by decide +kernel
theorem dX1_words_42 : decode cX1_words 42 = .ok (.iconst 0, 1) := by decide +kernel
theorem dX1_words_43 : decode cX1_words 43 = .ok (.istore 6, 2) := by decide +kernel
theorem dX1_words_45 : decode cX1_words 45 = .ok (.iload 6, 2) := by decide +kernel
theorem dX1_words_47 : decode cX1_words 47 = .ok (.sipush 511, 3) := by decide +kernel
theorem dX1_words_50 : decode cX1_words 50 = .ok (.if_icmp .gt 70, 3) := by decide +kernel
theorem dX1_words_53 : decode cX1_words 53 = .ok (.aload_n 0, 1) := by decide +kernel
theorem dX1_words_54 : decode cX1_words 54 = .ok (.getfield 29, 3) := by decide +kernel
theorem dX1_words_57 : decode cX1_words 57 = .ok (.iload_n 1, 1) := by decide +kernel
theorem dX1_words_58 : decode cX1_words 58 = .ok (.iload 6, 2) := by decide +kernel
theorem dX1_words_60 : decode cX1_words 60 = .ok (.invokevirtual 150, 3) := by decide +kernel
theorem dX1_words_63 : decode cX1_words 63 = .ok (.ifCond .eq 57, 3) := by decide +kernel
theorem dX1_words_66 : decode cX1_words 66 = .ok (.aload_n 0, 1) := by decide +kernel
theorem dX1_words_67 : decode cX1_words 67 = .ok (.getfield 33, 3) := by decide +kernel
theorem dX1_words_70 : decode cX1_words 70 = .ok (.aload_n 0, 1) := by decide +kernel
theorem dX1_words_71 : decode cX1_words 71 = .ok (.getfield 29, 3) := by decide +kernel
theorem dX1_words_74 : decode cX1_words 74 = .ok (.invokevirtual 104, 3) := by decide +kernel
theorem dX1_words_77 : decode cX1_words 77 = .ok (.aload_n 0, 1) := by decide +kernel
theorem dX1_words_78 : decode cX1_words 78 = .ok (.getfield 33, 3) := by decide +kernel
theorem dX1_words_81 : decode cX1_words 81 = .ok (.getfield 144, 3) := by decide +kernel
theorem dX1_words_84 : decode cX1_words 84 = .ok (.iload_n 1, 1) := by decide +kernel
theorem dX1_words_85 : decode cX1_words 85 = .ok (.iload 6, 2) := by decide +kernel
theorem dX1_words_87 : decode cX1_words 87 = .ok (.iastore, 1) := by decide +kernel
theorem dX1_words_88 : decode cX1_words 88 = .ok (.aload_n 0, 1) := by decide +kernel
theorem dX1_words_89 : decode cX1_words 89 = .ok (.iload_n 1, 1) := by decide +kernel
theorem dX1_words_90 : decode cX1_words 90 = .ok (.iload_n 2, 1) := by decide +kernel
theorem dX1_words_91 : decode cX1_words 91 = .ok (.invokevirtual 198, 3) := by decide +kernel
theorem dX1_words_94 : decode cX1_words 94 = .ok (.ifCond .eq 20, 3) := by decide +kernel
theorem dX1_words_97 : decode cX1_words 97 = .ok (.iload 5, 2) := by decide +kernel
theorem dX1_words_99 : decode cX1_words 99 = .ok (.ifCond .ne 8, 3) := by decide +kernel
theorem dX1_words_102 : decode cX1_words 102 = .ok (.iload 6, 2) := by decide +kernel
theorem dX1_words_104 : decode cX1_words 104 = .ok (.goto 5, 3) := by decide +kernel
theorem dX1_words_107 : decode cX1_words 107 = .ok (.iload 4, 2) := by decide +kernel
theorem dX1_words_109 : decode cX1_words 109 = .ok (.istore 4, 2) := by decide +kernel
theorem dX1_words_111 : decode cX1_words 111 = .ok (.iinc 5 1, 3) := by decide +kernel
theorem dX1_words_114 : decode cX1_words 114 = .ok (.iinc 6 1, 3) := by decide +kernel
theorem dX1_words_117 : decode cX1_words 117 = .ok (.goto (-72), 3) := by decide +kernel
theorem dX1_words_120 : decode cX1_words 120 = .ok (.iload 5, 2) := by decide +kernel
theorem dX1_words_122 : decode cX1_words 122 = .ok (.ifCond .ne 6, 3) := by decide +kernel
theorem dX1_words_125 : decode cX1_words 125 = .ok (.bipush (-9), 2) := by decide +kernel
theorem dX1_words_127 : decode cX1_words 127 = .ok (.ireturn, 1) := by decide +kernel
theorem dX1_words_128 : decode cX1_words 128 = .ok (.aload_n 0, 1) := by decide +kernel
theorem dX1_words_129 : decode cX1_words 129 = .ok (.iload 4, 2) := by decide +kernel
theorem dX1_words_131 : decode cX1_words 131 = .ok (.putfield 58, 3) := by decide +kernel
theorem dX1_words_134 : decode cX1_words 134 = .ok (.iload 5, 2) := by decide +kernel
theorem dX1_words_136 : decode cX1_words 136 = .ok (.ireturn, 1) := by decide +kernel
theorem dX1_test_0 : decode cX1_test 0 = .ok (.aload_n 0, 1) := by decide +kernel
theorem dX1_test_1 : decode cX1_test 1 = .ok (.getfield 29, 3) := by decide +kernel
theorem dX1_test_4 : decode cX1_test 4 = .ok (.iload_n 1, 1) := by decide +kernel
theorem dX1_test_5 : decode cX1_test 5 = .ok (.invokevirtual 111, 3) := by decide +kernel
theorem dX1_test_8 : decode cX1_test 8 = .ok (.ifCond .eq 10, 3) := by decide +kernel
theorem dX1_test_11 : decode cX1_test 11 = .ok (.iload_n 2, 1) := by decide +kernel
theorem dX1_test_12 : decode cX1_test 12 = .ok (.invokestatic 68, 3) := by decide +kernel
theorem dX1_test_15 : decode cX1_test 15 = .ok (.ifCond .ne 5, 3) := by decide +kernel
theorem dX1_test_18 : decode cX1_test 18 = .ok (.iconst (-1), 1) := by decide +kernel
theorem dX1_test_19 : decode cX1_test 19 = .ok (.ireturn, 1) := by decide +kernel
theorem dX1_test_20 : decode cX1_test 20 = .ok (.aload_n 0, 1) := by decide +kernel
theorem dX1_test_21 : decode cX1_test 21 = .ok (.iload_n 2, 1) := by decide +kernel
theorem dX1_test_22 : decode cX1_test 22 = .ok (.invokevirtual 192, 3) := by decide +kernel
theorem dX1_test_25 : decode cX1_test 25 = .ok (.istore_n 3, 1) := by decide +kernel
theorem dX1_test_26 : decode cX1_test 26 = .ok (.iload_n 3, 1) := by decide +kernel
theorem dX1_test_27 : decode cX1_test 27 = .ok (.ifCond .eq 9, 3) := by decide +kernel
theorem dX1_test_30 : decode cX1_test 30 = .ok (.aload_n 0, 1) := by decide +kernel
theorem dX1_test_31 : decode cX1_test 31 = .ok (.iload_n 3, 1) := by decide +kernel
theorem dX1_test_32 : decode cX1_test 32 = .ok (.invokevirtual 72, 3) := by decide +kernel
theorem dX1_test_35 : decode cX1_test 35 = .ok (.ireturn, 1) := by decide +kernel
theorem dX1_test_36 : decode cX1_test 36 = .ok (.aload_n 0, 1) := by decide +kernel
theorem dX1_test_37 : decode cX1_test 37 = .ok (.iload_n 1, 1) := by decide +kernel
theorem dX1_test_38 : decode cX1_test 38 = .ok (.iload_n 2, 1) := by decide +kernel
theorem dX1_test_39 : decode cX1_test 39 = .ok (.invokevirtual 195, 3) := by decide +kernel
theorem dX1_test_42 : decode cX1_test 42 = .ok (.istore 4, 2) := by decide +kernel
theorem dX1_test_44 : decode cX1_test 44 = .ok (.iload 4, 2) := by decide +kernel
theorem dX1_test_46 : decode cX1_test 46 = .ok (.ifCond .ne 6, 3) := by decide +kernel
theorem dX1_test_49 : decode cX1_test 49 = .ok (.bipush (-9), 2) := by decide +kernel
theorem dX1_test_51 : decode cX1_test 51 = .ok (.ireturn, 1) := by decide +kernel
theorem dX1_test_52 : decode cX1_test 52 = .ok (.aload_n 0, 1) := by decide +kernel
theorem dX1_test_53 : decode cX1_test 53 = .ok (.iload_n 1, 1) := by decide +kernel
theorem dX1_test_54 : decode cX1_test 54 = .ok (.invokevirtual 201, 3) := by decide +kernel
theorem dX1_test_57 : decode cX1_test 57 = .ok (.bipush 7, 2) := by decide +kernel
theorem dX1_test_59 : decode cX1_test 59 = .ok (.istore 5, 2) := by decide +kernel
theorem dX1_test_61 : decode cX1_test 61 = .ok (.bipush (-9), 2) := by decide +kernel
theorem dX1_test_63 : decode cX1_test 63 = .ok (.istore 6, 2) := by decide +kernel
theorem dX1_test_65 : decode cX1_test 65 = .ok (.iconst 0, 1) := by decide +kernel
theorem dX1_test_66 : decode cX1_test 66 = .ok (.istore 7, 2) := by decide +kernel
theorem dX1_test_68 : decode cX1_test 68 = .ok (.iload 7, 2) := by decide +kernel
theorem dX1_test_70 : decode cX1_test 70 = .ok (.bipush 20, 2) := by decide +kernel
theorem dX1_test_72 : decode cX1_test 72 = .ok (.if_icmp .ge 36, 3) := by decide +kernel
theorem dX1_test_75 : decode cX1_test 75 = .ok (.aload_n 0, 1) := by decide +kernel
theorem dX1_test_76 : decode cX1_test 76 = .ok (.iload 4, 2) := by decide +kernel
theorem dX1_test_78 : decode cX1_test 78 = .ok (.iload 7, 2) := by decide +kernel
theorem dX1_test_80 : decode cX1_test 80 = .ok (.invokevirtual 204, 3) := by decide +kernel
theorem dX1_test_83 : decode cX1_test 83 = .ok (.istore 8, 2) := by decide +kernel
theorem dX1_test_85 : decode cX1_test 85 = .ok (.iload 8, 2) := by decide +kernel
theorem dX1_test_87 : decode cX1_test 87 = .ok (.iload 5, 2) := by decide +kernel
theorem dX1_test_89 : decode cX1_test 89 = .ok (.if_icmp .ge 13, 3) := by decide +kernel
theorem dX1_test_92 : decode cX1_test 92 = .ok (.iload 8, 2) := by decide +kernel
theorem dX1_test_94 : decode cX1_test 94 = .ok (.istore 5, 2) := by decide +kernel
theorem dX1_test_96 : decode cX1_test 96 = .ok (.iload 7, 2) := by decide +kernel
theorem dX1_test_98 : decode cX1_test 98 = .ok (.iconst 1, 1) := by decide +kernel
end
section
theorem dX1_test_99 : decode cX1_test 99 = .ok (.iadd, 1) := by decide +kernel
theorem dX1_test_100 : decode cX1_test 100 = .ok (.istore 6, 2) := by decide +kernel
theorem dX1_test_102 : decode cX1_test 102 = .ok (.iinc 7 1, 3) := by decide +kernel
theorem dX1_test_105 : decode cX1_test 105 = .ok (.goto (-37), 3) := by decide +kernel
theorem dX1_test_108 : decode cX1_test 108 = .ok (.aload_n 0, 1) := by decide +kernel
theorem dX1_test_109 : decode cX1_test 109 = .ok (.iload 5, 2) := by decide +kernel
theorem dX1_test_111 : decode cX1_test 111 = .ok (.putfield 58, 3) := by decide +kernel
theorem dX1_test_114 : decode cX1_test 114 = .ok (.iload 6, 2) := by decide +kernel
theorem dX1_test_116 : decode cX1_test 116 = .ok (.ireturn, 1) := by decide +kernel
theorem dX1_duel_0 : decode cX1_duel 0 = .ok (.iload_n 1, 1) := by decide +kernel
theorem dX1_duel_1 : decode cX1_duel 1 = .ok (.iconst 0, 1) := by decide +kernel
theorem dX1_duel_2 : decode cX1_duel 2 = .ok (.iconst 3, 1) := by decide +kernel
theorem dX1_duel_3 : decode cX1_duel 3 = .ok (.invokestatic 114, 3) := by decide +kernel
theorem dX1_duel_6 : decode cX1_duel 6 = .ok (.ifCond .ne 5, 3) := by decide +kernel
theorem dX1_duel_9 : decode cX1_duel 9 = .ok (.iconst (-1), 1) := by decide +kernel
theorem dX1_duel_10 : decode cX1_duel 10 = .ok (.ireturn, 1) := by decide +kernel
theorem dX1_duel_11 : decode cX1_duel 11 = .ok (.aload_n 0, 1) := by decide +kernel
theorem dX1_duel_12 : decode cX1_duel 12 = .ok (.getfield 29, 3) := by decide +kernel
theorem dX1_duel_15 : decode cX1_duel 15 = .ok (.getfield 108, 3) := by decide +kernel
theorem dX1_duel_18 : decode cX1_duel 18 = .ok (.ifCond .ne 6, 3) := by decide +kernel
theorem dX1_duel_21 : decode cX1_duel 21 = .ok (.bipush (-4), 2) := by decide +kernel
theorem dX1_duel_23 : decode cX1_duel 23 = .ok (.ireturn, 1) := by decide +kernel
theorem dX1_duel_24 : decode cX1_duel 24 = .ok (.aload_n 0, 1) := by decide +kernel
theorem dX1_duel_25 : decode cX1_duel 25 = .ok (.aload_n 0, 1) := by decide +kernel
theorem dX1_duel_26 : decode cX1_duel 26 = .ok (.getfield 29, 3) := by decide +kernel
theorem dX1_duel_29 : decode cX1_duel 29 = .ok (.invokevirtual 207, 3) := by decide +kernel
theorem dX1_duel_32 : decode cX1_duel 32 = .ok (.iconst 0, 1) := by decide +kernel
theorem dX1_duel_33 : decode cX1_duel 33 = .ok (.iload_n 1, 1) := by decide +kernel
theorem dX1_duel_34 : decode cX1_duel 34 = .ok (.invokevirtual 210, 3) := by decide +kernel
theorem dX1_duel_37 : decode cX1_duel 37 = .ok (.ireturn, 1) := by decide +kernel
theorem dX1_odds_0 : decode cX1_odds 0 = .ok (.iload_n 1, 1) := by decide +kernel
theorem dX1_odds_1 : decode cX1_odds 1 = .ok (.iconst 0, 1) := by decide +kernel
theorem dX1_odds_2 : decode cX1_odds 2 = .ok (.bipush 63, 2) := by decide +kernel
theorem dX1_odds_4 : decode cX1_odds 4 = .ok (.invokestatic 114, 3) := by decide +kernel
theorem dX1_odds_7 : decode cX1_odds 7 = .ok (.ifCond .eq 23, 3) := by decide +kernel
theorem dX1_odds_10 : decode cX1_odds 10 = .ok (.iload_n 2, 1) := by decide +kernel
theorem dX1_odds_11 : decode cX1_odds 11 = .ok (.iconst 0, 1) := by decide +kernel
theorem dX1_odds_12 : decode cX1_odds 12 = .ok (.bipush 20, 2) := by decide +kernel
theorem dX1_odds_14 : decode cX1_odds 14 = .ok (.invokestatic 114, 3) := by decide +kernel
theorem dX1_odds_17 : decode cX1_odds 17 = .ok (.ifCond .eq 13, 3) := by decide +kernel
theorem dX1_odds_20 : decode cX1_odds 20 = .ok (.iload_n 3, 1) := by decide +kernel
theorem dX1_odds_21 : decode cX1_odds 21 = .ok (.iconst 0, 1) := by decide +kernel
theorem dX1_odds_22 : decode cX1_odds 22 = .ok (.bipush 12, 2) := by decide +kernel
theorem dX1_odds_24 : decode cX1_odds 24 = .ok (.invokestatic 114, 3) := by decide +kernel
theorem dX1_odds_27 : decode cX1_odds 27 = .ok (.ifCond .ne 5, 3) := by decide +kernel
theorem dX1_odds_30 : decode cX1_odds 30 = .ok (.iconst (-1), 1) := by decide +kernel
theorem dX1_odds_31 : decode cX1_odds 31 = .ok (.ireturn, 1) := by decide +kernel
theorem dX1_odds_32 : decode cX1_odds 32 = .ok (.aload_n 0, 1) := by decide +kernel
theorem dX1_odds_33 : decode cX1_odds 33 = .ok (.getfield 29, 3) := by decide +kernel
theorem dX1_odds_36 : decode cX1_odds 36 = .ok (.getfield 108, 3) := by decide +kernel
theorem dX1_odds_39 : decode cX1_odds 39 = .ok (.ifCond .ne 6, 3) := by decide +kernel
theorem dX1_odds_42 : decode cX1_odds 42 = .ok (.bipush (-4), 2) := by decide +kernel
theorem dX1_odds_44 : decode cX1_odds 44 = .ok (.ireturn, 1) := by decide +kernel
theorem dX1_odds_45 : decode cX1_odds 45 = .ok (.aload_n 0, 1) := by decide +kernel
theorem dX1_odds_46 : decode cX1_odds 46 = .ok (.iload_n 1, 1) := by decide +kernel
theorem dX1_odds_47 : decode cX1_odds 47 = .ok (.iload_n 2, 1) := by decide +kernel
theorem dX1_odds_48 : decode cX1_odds 48 = .ok (.iload_n 3, 1) := by decide +kernel
theorem dX1_odds_49 : decode cX1_odds 49 = .ok (.invokevirtual 214, 3) := by decide +kernel
theorem dX1_odds_52 : decode cX1_odds 52 = .ok (.iconst 1, 1) := by decide +kernel
theorem dX1_odds_53 : decode cX1_odds 53 = .ok (.ireturn, 1) := by decide +kernel
theorem dX1_mid_0 : decode cX1_mid 0 = .ok (.iload_n 1, 1) := by decide +kernel
theorem dX1_mid_1 : decode cX1_mid 1 = .ok (.iconst 0, 1) := by decide +kernel
theorem dX1_mid_2 : decode cX1_mid 2 = .ok (.bipush 20, 2) := by decide +kernel
theorem dX1_mid_4 : decode cX1_mid 4 = .ok (.invokestatic 114, 3) := by decide +kernel
theorem dX1_mid_7 : decode cX1_mid 7 = .ok (.ifCond .eq 13, 3) := by decide +kernel
theorem dX1_mid_10 : decode cX1_mid 10 = .ok (.iload_n 2, 1) := by decide +kernel
theorem dX1_mid_11 : decode cX1_mid 11 = .ok (.iconst 0, 1) := by decide +kernel
theorem dX1_mid_12 : decode cX1_mid 12 = .ok (.bipush 12, 2) := by decide +kernel
theorem dX1_mid_14 : decode cX1_mid 14 = .ok (.invokestatic 114, 3) := by decide +kernel
theorem dX1_mid_17 : decode cX1_mid 17 = .ok (.ifCond .ne 5, 3) := by decide +kernel
theorem dX1_mid_20 : decode cX1_mid 20 = .ok (.iconst (-1), 1) := by decide +kernel
theorem dX1_mid_21 : decode cX1_mid 21 = .ok (.ireturn, 1) := by decide +kernel
theorem dX1_mid_22 : decode cX1_mid 22 = .ok (.aload_n 0, 1) := by decide +kernel
theorem dX1_mid_23 : decode cX1_mid 23 = .ok (.getfield 29, 3) := by decide +kernel
theorem dX1_mid_26 : decode cX1_mid 26 = .ok (.getfield 108, 3) := by decide +kernel
theorem dX1_mid_29 : decode cX1_mid 29 = .ok (.ifCond .ne 6, 3) := by decide +kernel
theorem dX1_mid_32 : decode cX1_mid 32 = .ok (.bipush (-4), 2) := by decide +kernel
theorem dX1_mid_34 : decode cX1_mid 34 = .ok (.ireturn, 1) := by decide +kernel
theorem dX1_mid_35 : decode cX1_mid 35 = .ok (.aload_n 0, 1) := by decide +kernel
theorem dX1_mid_36 : decode cX1_mid 36 = .ok (.iconst (-1), 1) := by decide +kernel
theorem dX1_mid_37 : decode cX1_mid 37 = .ok (.iload_n 1, 1) := by decide +kernel
theorem dX1_mid_38 : decode cX1_mid 38 = .ok (.iload_n 2, 1) := by decide +kernel
theorem dX1_mid_39 : decode cX1_mid 39 = .ok (.invokevirtual 214, 3) := by decide +kernel
theorem dX1_mid_42 : decode cX1_mid 42 = .ok (.iconst 1, 1) := by decide +kernel
theorem dX1_mid_43 : decode cX1_mid 43 = .ok (.ireturn, 1) := by decide +kernel
theorem dX1_lots_0 : decode cX1_lots 0 = .ok (.iload_n 1, 1) := by decide +kernel
theorem dX1_lots_1 : decode cX1_lots 1 = .ok (.iconst 1, 1) := by decide +kernel
theorem dX1_lots_2 : decode cX1_lots 2 = .ok (.bipush 20, 2) := by decide +kernel
theorem dX1_lots_4 : decode cX1_lots 4 = .ok (.invokestatic 114, 3) := by decide +kernel
theorem dX1_lots_7 : decode cX1_lots 7 = .ok (.ifCond .eq 17, 3) := by decide +kernel
theorem dX1_lots_10 : decode cX1_lots 10 = .ok (.iload_n 2, 1) := by decide +kernel
theorem dX1_lots_11 : decode cX1_lots 11 = .ok (.iconst 1, 1) := by decide +kernel
theorem dX1_lots_12 : decode cX1_lots 12 = .ok (.if_icmp .lt 12, 3) := by decide +kernel
theorem dX1_lots_15 : decode cX1_lots 15 = .ok (.iload_n 2, 1) := by decide +kernel
theorem dX1_lots_16 : decode cX1_lots 16 = .ok (.i2l, 1) := by decide +kernel
theorem dX1_lots_17 : decode cX1_lots 17 = .ok (.ldc2_w 217, 3) := by decide +kernel
theorem dX1_lots_20 : decode cX1_lots 20 = .ok (.lcmp, 1) := by decide +kernel
theorem dX1_lots_21 : decode cX1_lots 21 = .ok (.ifCond .lt 5, 3) := by decide +kernel
theorem dX1_lots_24 : decode cX1_lots 24 = .ok (.iconst (-1), 1) := by decide +kernel
theorem dX1_lots_25 : decode cX1_lots 25 = .ok (.ireturn, 1) := by decide +kernel
theorem dX1_lots_26 : decode cX1_lots 26 = .ok (.aload_n 0, 1) := by decide +kernel
theorem dX1_lots_27 : decode cX1_lots 27 = .ok (.getfield 29, 3) := by decide +kernel
theorem dX1_lots_30 : decode cX1_lots 30 = .ok (.getfield 108, 3) := by decide +kernel
theorem dX1_lots_33 : decode cX1_lots 33 = .ok (.ifCond .ne 6, 3) := by decide +kernel
theorem dX1_lots_36 : decode cX1_lots 36 = .ok (.bipush (-4), 2) := by decide +kernel
theorem dX1_lots_38 : decode cX1_lots 38 = .ok (.ireturn, 1) := by decide +kernel
theorem dX1_lots_39 : decode cX1_lots 39 = .ok (.aload_n 0, 1) := by decide +kernel
theorem dX1_lots_40 : decode cX1_lots 40 = .ok (.iload_n 1, 1) := by decide +kernel
theorem dX1_lots_41 : decode cX1_lots 41 = .ok (.invokevirtual 130, 3) := by decide +kernel
theorem dX1_lots_44 : decode cX1_lots 44 = .ok (.ifCond .ne 6, 3) := by decide +kernel
theorem dX1_lots_47 : decode cX1_lots 47 = .ok (.bipush (-2), 2) := by decide +kernel
theorem dX1_lots_49 : decode cX1_lots 49 = .ok (.ireturn, 1) := by decide +kernel
theorem dX1_lots_50 : decode cX1_lots 50 = .ok (.iload_n 2, 1) := by decide +kernel
theorem dX1_lots_51 : decode cX1_lots 51 = .ok (.i2l, 1) := by decide +kernel
theorem dX1_lots_52 : decode cX1_lots 52 = .ok (.lstore_n 3, 1) := by decide +kernel
theorem dX1_lots_53 : decode cX1_lots 53 = .ok (.iconst 0, 1) := by decide +kernel
theorem dX1_lots_54 : decode cX1_lots 54 = .ok (.istore 5, 2) := by decide +kernel
theorem dX1_lots_56 : decode cX1_lots 56 = .ok (.iload 5, 2) := by decide +kernel
theorem dX1_lots_58 : decode cX1_lots 58 = .ok (.iload_n 1, 1) := by decide +kernel
theorem dX1_lots_59 : decode cX1_lots 59 = .ok (.if_icmp .ge 25, 3) := by decide +kernel
theorem dX1_lots_62 : decode cX1_lots 62 = .ok (.lload_n 3, 1) := by decide +kernel
theorem dX1_lots_63 : decode cX1_lots 63 = .ok (.ldc2_w 219, 3) := by decide +kernel
theorem dX1_lots_66 : decode cX1_lots 66 = .ok (.lmul, 1) := by decide +kernel
theorem dX1_lots_67 : decode cX1_lots 67 = .ok (.ldc2_w 217, 3) := by decide +kernel
theorem dX1_lots_70 : decode cX1_lots 70 = .ok (.lrem, 1) := by decide +kernel
theorem dX1_lots_71 : decode cX1_lots 71 = .ok (.lstore_n 3, 1) := by decide +kernel
theorem dX1_lots_72 : decode cX1_lots 72 = .ok (.aload_n 0, 1) := by decide +kernel
theorem dX1_lots_73 : decode cX1_lots 73 = .ok (.lload_n 3, 1) := by decide +kernel
theorem dX1_lots_74 : decode cX1_lots 74 = .ok (.l2i, 1) := by decide +kernel
theorem dX1_lots_75 : decode cX1_lots 75 = .ok (.invokevirtual 221, 3) := by decide +kernel
theorem dX1_lots_78 : decode cX1_lots 78 = .ok (.iinc 5 1, 3) := by decide +kernel
theorem dX1_lots_81 : decode cX1_lots 81 = .ok (.goto (-25), 3) := by decide +kernel
theorem dX1_lots_84 : decode cX1_lots 84 = .ok (.aload_n 0, 1) := by decide +kernel
theorem dX1_lots_85 : decode cX1_lots 85 = .ok (.getfield 29, 3) := by decide +kernel
theorem dX1_lots_88 : decode cX1_lots 88 = .ok (.invokevirtual 137, 3) := by decide +kernel
theorem dX1_lots_91 : decode cX1_lots 91 = .ok (.ireturn, 1) := by decide +kernel
theorem dX1_asked_0 : decode cX1_asked 0 = .ok (.aload_n 0, 1) := by decide +kernel
theorem dX1_asked_1 : decode cX1_asked 1 = .ok (.getfield 58, 3) := by decide +kernel
theorem dX1_asked_4 : decode cX1_asked 4 = .ok (.ireturn, 1) := by decide +kernel
theorem dX1_upper_0 : decode cX1_upper 0 = .ok (.aload_n 0, 1) := by decide +kernel
theorem dX1_upper_1 : decode cX1_upper 1 = .ok (.getfield 61, 3) := by decide +kernel
theorem dX1_upper_4 : decode cX1_upper 4 = .ok (.lreturn, 1) := by decide +kernel
theorem dX1_lower_0 : decode cX1_lower 0 = .ok (.aload_n 0, 1) := by decide +kernel
theorem dX1_lower_1 : decode cX1_lower 1 = .ok (.getfield 65, 3) := by decide +kernel
theorem dX1_lower_4 : decode cX1_lower 4 = .ok (.lreturn, 1) := by decide +kernel
theorem dX1_count_0 : decode cX1_count 0 = .ok (.iload_n 1, 1) := by decide +kernel
theorem dX1_count_1 : decode cX1_count 1 = .ok (.iconst 0, 1) := by decide +kernel
theorem dX1_count_2 : decode cX1_count 2 = .ok (.bipush 10, 2) := by decide +kernel
theorem dX1_count_4 : decode cX1_count 4 = .ok (.invokestatic 114, 3) := by decide +kernel
theorem dX1_count_7 : decode cX1_count 7 = .ok (.ifCond .eq 11, 3) := by decide +kernel
theorem dX1_count_10 : decode cX1_count 10 = .ok (.aload_n 0, 1) := by decide +kernel
theorem dX1_count_11 : decode cX1_count 11 = .ok (.iload_n 1, 1) := by decide +kernel
theorem dX1_count_12 : decode cX1_count 12 = .ok (.invokevirtual 224, 3) := by decide +kernel
theorem dX1_count_15 : decode cX1_count 15 = .ok (.goto 4, 3) := by decide +kernel
theorem dX1_count_18 : decode cX1_count 18 = .ok (.iconst (-1), 1) := by decide +kernel
theorem dX1_count_19 : decode cX1_count 19 = .ok (.ireturn, 1) := by decide +kernel
theorem dX1_finding_0 : decode cX1_finding 0 = .ok (.aload_n 0, 1) := by decide +kernel
theorem dX1_finding_1 : decode cX1_finding 1 = .ok (.getfield 55, 3) := by decide +kernel
theorem dX1_finding_4 : decode cX1_finding 4 = .ok (.ireturn, 1) := by decide +kernel
theorem dX1_findings_0 : decode cX1_findings 0 = .ok (.iload_n 1, 1) := by decide +kernel
theorem dX1_findings_1 : decode cX1_findings 1 = .ok (.iconst 1, 1) := by decide +kernel
theorem dX1_findings_2 : decode cX1_findings 2 = .ok (.iconst 5, 1) := by decide +kernel
theorem dX1_findings_3 : decode cX1_findings 3 = .ok (.invokestatic 114, 3) := by decide +kernel
theorem dX1_findings_6 : decode cX1_findings 6 = .ok (.ifCond .eq 12, 3) := by decide +kernel
theorem dX1_findings_9 : decode cX1_findings 9 = .ok (.aload_n 0, 1) := by decide +kernel
theorem dX1_findings_10 : decode cX1_findings 10 = .ok (.getfield 52, 3) := by decide +kernel
theorem dX1_findings_13 : decode cX1_findings 13 = .ok (.iload_n 1, 1) := by decide +kernel
theorem dX1_findings_14 : decode cX1_findings 14 = .ok (.iaload, 1) := by decide +kernel
theorem dX1_findings_15 : decode cX1_findings 15 = .ok (.goto 4, 3) := by decide +kernel
theorem dX1_findings_18 : decode cX1_findings 18 = .ok (.iconst (-1), 1) := by decide +kernel
theorem dX1_findings_19 : decode cX1_findings 19 = .ok (.ireturn, 1) := by decide +kernel
theorem dX1_digest_0 : decode cX1_digest 0 = .ok (.ldc2_w 227, 3) := by decide +kernel
theorem dX1_digest_3 : decode cX1_digest 3 = .ok (.lstore_n 1, 1) := by decide +kernel
theorem dX1_digest_4 : decode cX1_digest 4 = .ok (.iconst 0, 1) := by decide +kernel
theorem dX1_digest_5 : decode cX1_digest 5 = .ok (.istore_n 3, 1) := by decide +kernel
theorem dX1_digest_6 : decode cX1_digest 6 = .ok (.iload_n 3, 1) := by decide +kernel
theorem dX1_digest_7 : decode cX1_digest 7 = .ok (.bipush 11, 2) := by decide +kernel
theorem dX1_digest_9 : decode cX1_digest 9 = .ok (.if_icmp .ge 22, 3) := by decide +kernel
theorem dX1_digest_12 : decode cX1_digest 12 = .ok (.ldc2_w 229, 3) := by decide +kernel
theorem dX1_digest_15 : decode cX1_digest 15 = .ok (.lload_n 1, 1) := by decide +kernel
theorem dX1_digest_16 : decode cX1_digest 16 = .ok (.lmul, 1) := by decide +kernel
theorem dX1_digest_17 : decode cX1_digest 17 = .ok (.aload_n 0, 1) := by decide +kernel
theorem dX1_digest_18 : decode cX1_digest 18 = .ok (.iload_n 3, 1) := by decide +kernel
theorem dX1_digest_19 : decode cX1_digest 19 = .ok (.invokevirtual 224, 3) := by decide +kernel
theorem dX1_digest_22 : decode cX1_digest 22 = .ok (.i2l, 1) := by decide +kernel
theorem dX1_digest_23 : decode cX1_digest 23 = .ok (.ladd, 1) := by decide +kernel
theorem dX1_digest_24 : decode cX1_digest 24 = .ok (.lstore_n 1, 1) := by decide +kernel
theorem dX1_digest_25 : decode cX1_digest 25 = .ok (.iinc 3 1, 3) := by decide +kernel
theorem dX1_digest_28 : decode cX1_digest 28 = .ok (.goto (-22), 3) := by decide +kernel
theorem dX1_digest_31 : decode cX1_digest 31 = .ok (.iconst 0, 1) := by decide +kernel
theorem dX1_digest_32 : decode cX1_digest 32 = .ok (.istore_n 3, 1) := by decide +kernel
theorem dX1_digest_33 : decode cX1_digest 33 = .ok (.iload_n 3, 1) := by decide +kernel
theorem dX1_digest_34 : decode cX1_digest 34 = .ok (.aload_n 0, 1) := by decide +kernel
theorem dX1_digest_35 : decode cX1_digest 35 = .ok (.getfield 29, 3) := by decide +kernel
theorem dX1_digest_38 : decode cX1_digest 38 = .ok (.getfield 108, 3) := by decide +kernel
theorem dX1_digest_41 : decode cX1_digest 41 = .ok (.if_icmp .ge 43, 3) := by decide +kernel
theorem dX1_digest_44 : decode cX1_digest 44 = .ok (.iconst 0, 1) := by decide +kernel
theorem dX1_digest_45 : decode cX1_digest 45 = .ok (.istore 4, 2) := by decide +kernel
theorem dX1_digest_47 : decode cX1_digest 47 = .ok (.iload 4, 2) := by decide +kernel
theorem dX1_digest_49 : decode cX1_digest 49 = .ok (.bipush 7, 2) := by decide +kernel
theorem dX1_digest_51 : decode cX1_digest 51 = .ok (.if_icmp .ge 27, 3) := by decide +kernel
theorem dX1_digest_54 : decode cX1_digest 54 = .ok (.ldc2_w 229, 3) := by decide +kernel
theorem dX1_digest_57 : decode cX1_digest 57 = .ok (.lload_n 1, 1) := by decide +kernel
theorem dX1_digest_58 : decode cX1_digest 58 = .ok (.lmul, 1) := by decide +kernel
theorem dX1_digest_59 : decode cX1_digest 59 = .ok (.aload_n 0, 1) := by decide +kernel
theorem dX1_digest_60 : decode cX1_digest 60 = .ok (.getfield 29, 3) := by decide +kernel
theorem dX1_digest_63 : decode cX1_digest 63 = .ok (.iload_n 3, 1) := by decide +kernel
theorem dX1_digest_64 : decode cX1_digest 64 = .ok (.iload 4, 2) := by decide +kernel
theorem dX1_digest_66 : decode cX1_digest 66 = .ok (.invokevirtual 117, 3) := by decide +kernel
theorem dX1_digest_69 : decode cX1_digest 69 = .ok (.i2l, 1) := by decide +kernel
theorem dX1_digest_70 : decode cX1_digest 70 = .ok (.ladd, 1) := by decide +kernel
theorem dX1_digest_71 : decode cX1_digest 71 = .ok (.lstore_n 1, 1) := by decide +kernel
theorem dX1_digest_72 : decode cX1_digest 72 = .ok (.iinc 4 1, 3) := by decide +kernel
theorem dX1_digest_75 : decode cX1_digest 75 = .ok (.goto (-28), 3) := by decide +kernel
theorem dX1_digest_78 : decode cX1_digest 78 = .ok (.iinc 3 1, 3) := by decide +kernel
theorem dX1_digest_81 : decode cX1_digest 81 = .ok (.goto (-48), 3) := by decide +kernel
theorem dX1_digest_84 : decode cX1_digest 84 = .ok (.iconst 0, 1) := by decide +kernel
theorem dX1_digest_85 : decode cX1_digest 85 = .ok (.istore_n 3, 1) := by decide +kernel
theorem dX1_digest_86 : decode cX1_digest 86 = .ok (.iload_n 3, 1) := by decide +kernel
theorem dX1_digest_87 : decode cX1_digest 87 = .ok (.iconst 3, 1) := by decide +kernel
theorem dX1_digest_88 : decode cX1_digest 88 = .ok (.if_icmp .ge 23, 3) := by decide +kernel
theorem dX1_digest_91 : decode cX1_digest 91 = .ok (.ldc2_w 229, 3) := by decide +kernel
theorem dX1_digest_94 : decode cX1_digest 94 = .ok (.lload_n 1, 1) := by decide +kernel
theorem dX1_digest_95 : decode cX1_digest 95 = .ok (.lmul, 1) := by decide +kernel
theorem dX1_digest_96 : decode cX1_digest 96 = .ok (.aload_n 0, 1) := by decide +kernel
theorem dX1_digest_97 : decode cX1_digest 97 = .ok (.getfield 46, 3) := by decide +kernel
theorem dX1_digest_100 : decode cX1_digest 100 = .ok (.iload_n 3, 1) := by decide +kernel
theorem dX1_digest_101 : decode cX1_digest 101 = .ok (.iaload, 1) := by decide +kernel
theorem dX1_digest_102 : decode cX1_digest 102 = .ok (.i2l, 1) := by decide +kernel
theorem dX1_digest_103 : decode cX1_digest 103 = .ok (.ladd, 1) := by decide +kernel
theorem dX1_digest_104 : decode cX1_digest 104 = .ok (.lstore_n 1, 1) := by decide +kernel
theorem dX1_digest_105 : decode cX1_digest 105 = .ok (.iinc 3 1, 3) := by decide +kernel
theorem dX1_digest_108 : decode cX1_digest 108 = .ok (.goto (-22), 3) := by decide +kernel
theorem dX1_digest_111 : decode cX1_digest 111 = .ok (.iconst 0, 1) := by decide +kernel
theorem dX1_digest_112 : decode cX1_digest 112 = .ok (.istore_n 3, 1) := by decide +kernel
theorem dX1_digest_113 : decode cX1_digest 113 = .ok (.iload_n 3, 1) := by decide +kernel
theorem dX1_digest_114 : decode cX1_digest 114 = .ok (.bipush 6, 2) := by decide +kernel
theorem dX1_digest_116 : decode cX1_digest 116 = .ok (.if_icmp .ge 60, 3) := by decide +kernel
theorem dX1_digest_119 : decode cX1_digest 119 = .ok (.ldc2_w 229, 3) := by decide +kernel
theorem dX1_digest_122 : decode cX1_digest 122 = .ok (.lload_n 1, 1) := by decide +kernel
theorem dX1_digest_123 : decode cX1_digest 123 = .ok (.lmul, 1) := by decide +kernel
theorem dX1_digest_124 : decode cX1_digest 124 = .ok (.aload_n 0, 1) := by decide +kernel
theorem dX1_digest_125 : decode cX1_digest 125 = .ok (.getfield 14, 3) := by decide +kernel
theorem dX1_digest_128 : decode cX1_digest 128 = .ok (.iload_n 3, 1) := by decide +kernel
theorem dX1_digest_129 : decode cX1_digest 129 = .ok (.iaload, 1) := by decide +kernel
theorem dX1_digest_130 : decode cX1_digest 130 = .ok (.i2l, 1) := by decide +kernel
theorem dX1_digest_131 : decode cX1_digest 131 = .ok (.ladd, 1) := by decide +kernel
theorem dX1_digest_132 : decode cX1_digest 132 = .ok (.lstore_n 1, 1) := by decide +kernel
theorem dX1_digest_133 : decode cX1_digest 133 = .ok (.iconst 0, 1) := by decide +kernel
theorem dX1_digest_134 : decode cX1_digest 134 = .ok (.istore 4, 2) := by decide +kernel
theorem dX1_digest_136 : decode cX1_digest 136 = .ok (.iload 4, 2) := by decide +kernel
theorem dX1_digest_138 : decode cX1_digest 138 = .ok (.aload_n 0, 1) := by decide +kernel
theorem dX1_digest_139 : decode cX1_digest 139 = .ok (.getfield 14, 3) := by decide +kernel
theorem dX1_digest_142 : decode cX1_digest 142 = .ok (.iload_n 3, 1) := by decide +kernel
theorem dX1_digest_143 : decode cX1_digest 143 = .ok (.iaload, 1) := by decide +kernel
theorem dX1_digest_144 : decode cX1_digest 144 = .ok (.if_icmp .ge 26, 3) := by decide +kernel
theorem dX1_digest_147 : decode cX1_digest 147 = .ok (.ldc2_w 229, 3) := by decide +kernel
theorem dX1_digest_150 : decode cX1_digest 150 = .ok (.lload_n 1, 1) := by decide +kernel
theorem dX1_digest_151 : decode cX1_digest 151 = .ok (.lmul, 1) := by decide +kernel
theorem dX1_digest_152 : decode cX1_digest 152 = .ok (.aload_n 0, 1) := by decide +kernel
theorem dX1_digest_153 : decode cX1_digest 153 = .ok (.getfield 11, 3) := by decide +kernel
theorem dX1_digest_156 : decode cX1_digest 156 = .ok (.iload_n 3, 1) := by decide +kernel
theorem dX1_digest_157 : decode cX1_digest 157 = .ok (.aaload, 1) := by decide +kernel
theorem dX1_digest_158 : decode cX1_digest 158 = .ok (.iload 4, 2) := by decide +kernel
theorem dX1_digest_160 : decode cX1_digest 160 = .ok (.iaload, 1) := by decide +kernel
theorem dX1_digest_161 : decode cX1_digest 161 = .ok (.i2l, 1) := by decide +kernel
theorem dX1_digest_162 : decode cX1_digest 162 = .ok (.ladd, 1) := by decide +kernel
theorem dX1_digest_163 : decode cX1_digest 163 = .ok (.lstore_n 1, 1) := by decide +kernel
theorem dX1_digest_164 : decode cX1_digest 164 = .ok (.iinc 4 1, 3) := by decide +kernel
theorem dX1_digest_167 : decode cX1_digest 167 = .ok (.goto (-31), 3) := by decide +kernel
theorem dX1_digest_170 : decode cX1_digest 170 = .ok (.iinc 3 1, 3) := by decide +kernel
theorem dX1_digest_173 : decode cX1_digest 173 = .ok (.goto (-60), 3) := by decide +kernel
theorem dX1_digest_176 : decode cX1_digest 176 = .ok (.iconst 0, 1) := by decide +kernel
theorem dX1_digest_177 : decode cX1_digest 177 = .ok (.istore_n 3, 1) := by decide +kernel
theorem dX1_digest_178 : decode cX1_digest 178 = .ok (.iload_n 3, 1) := by decide +kernel
theorem dX1_digest_179 : decode cX1_digest 179 = .ok (.iconst 4, 1) := by decide +kernel
theorem dX1_digest_180 : decode cX1_digest 180 = .ok (.if_icmp .ge 60, 3) := by decide +kernel
theorem dX1_digest_183 : decode cX1_digest 183 = .ok (.ldc2_w 229, 3) := by decide +kernel
theorem dX1_digest_186 : decode cX1_digest 186 = .ok (.lload_n 1, 1) := by decide +kernel
theorem dX1_digest_187 : decode cX1_digest 187 = .ok (.lmul, 1) := by decide +kernel
theorem dX1_digest_188 : decode cX1_digest 188 = .ok (.aload_n 0, 1) := by decide +kernel
theorem dX1_digest_189 : decode cX1_digest 189 = .ok (.getfield 23, 3) := by decide +kernel
theorem dX1_digest_192 : decode cX1_digest 192 = .ok (.iload_n 3, 1) := by decide +kernel
theorem dX1_digest_193 : decode cX1_digest 193 = .ok (.iaload, 1) := by decide +kernel
theorem dX1_digest_194 : decode cX1_digest 194 = .ok (.i2l, 1) := by decide +kernel
theorem dX1_digest_195 : decode cX1_digest 195 = .ok (.ladd, 1) := by decide +kernel
theorem dX1_digest_196 : decode cX1_digest 196 = .ok (.lstore_n 1, 1) := by decide +kernel
theorem dX1_digest_197 : decode cX1_digest 197 = .ok (.iconst 0, 1) := by decide +kernel
theorem dX1_digest_198 : decode cX1_digest 198 = .ok (.istore 4, 2) := by decide +kernel
theorem dX1_digest_200 : decode cX1_digest 200 = .ok (.iload 4, 2) := by decide +kernel
theorem dX1_digest_202 : decode cX1_digest 202 = .ok (.aload_n 0, 1) := by decide +kernel
theorem dX1_digest_203 : decode cX1_digest 203 = .ok (.getfield 23, 3) := by decide +kernel
theorem dX1_digest_206 : decode cX1_digest 206 = .ok (.iload_n 3, 1) := by decide +kernel
theorem dX1_digest_207 : decode cX1_digest 207 = .ok (.iaload, 1) := by decide +kernel
theorem dX1_digest_208 : decode cX1_digest 208 = .ok (.if_icmp .ge 26, 3) := by decide +kernel
theorem dX1_digest_211 : decode cX1_digest 211 = .ok (.ldc2_w 229, 3) := by decide +kernel
theorem dX1_digest_214 : decode cX1_digest 214 = .ok (.lload_n 1, 1) := by decide +kernel
theorem dX1_digest_215 : decode cX1_digest 215 = .ok (.lmul, 1) := by decide +kernel
theorem dX1_digest_216 : decode cX1_digest 216 = .ok (.aload_n 0, 1) := by decide +kernel
theorem dX1_digest_217 : decode cX1_digest 217 = .ok (.getfield 20, 3) := by decide +kernel
theorem dX1_digest_220 : decode cX1_digest 220 = .ok (.iload_n 3, 1) := by decide +kernel
theorem dX1_digest_221 : decode cX1_digest 221 = .ok (.aaload, 1) := by decide +kernel
theorem dX1_digest_222 : decode cX1_digest 222 = .ok (.iload 4, 2) := by decide +kernel
theorem dX1_digest_224 : decode cX1_digest 224 = .ok (.baload, 1) := by decide +kernel
theorem dX1_digest_225 : decode cX1_digest 225 = .ok (.i2l, 1) := by decide +kernel
theorem dX1_digest_226 : decode cX1_digest 226 = .ok (.ladd, 1) := by decide +kernel
theorem dX1_digest_227 : decode cX1_digest 227 = .ok (.lstore_n 1, 1) := by decide +kernel
theorem dX1_digest_228 : decode cX1_digest 228 = .ok (.iinc 4 1, 3) := by decide +kernel
theorem dX1_digest_231 : decode cX1_digest 231 = .ok (.goto (-31), 3) := by decide +kernel
theorem dX1_digest_234 : decode cX1_digest 234 = .ok (.iinc 3 1, 3) := by decide +kernel
theorem dX1_digest_237 : decode cX1_digest 237 = .ok (.goto (-59), 3) := by decide +kernel
theorem dX1_digest_240 : decode cX1_digest 240 = .ok (.lload_n 1, 1) := by decide +kernel
theorem dX1_digest_241 : decode cX1_digest 241 = .ok (.lreturn, 1) := by decide +kernel
theorem dX1_refuse_0 : decode cX1_refuse 0 = .ok (.iload_n 1, 1) := by decide +kernel
theorem dX1_refuse_1 : decode cX1_refuse 1 = .ok (.iconst 1, 1) := by decide +kernel
theorem dX1_refuse_2 : decode cX1_refuse 2 = .ok (.iconst 5, 1) := by decide +kernel
theorem dX1_refuse_3 : decode cX1_refuse 3 = .ok (.invokestatic 114, 3) := by decide +kernel
theorem dX1_refuse_6 : decode cX1_refuse 6 = .ok (.ifCond .eq 18, 3) := by decide +kernel
theorem dX1_refuse_9 : decode cX1_refuse 9 = .ok (.aload_n 0, 1) := by decide +kernel
theorem dX1_refuse_10 : decode cX1_refuse 10 = .ok (.iload_n 1, 1) := by decide +kernel
theorem dX1_refuse_11 : decode cX1_refuse 11 = .ok (.putfield 55, 3) := by decide +kernel
theorem dX1_refuse_14 : decode cX1_refuse 14 = .ok (.aload_n 0, 1) := by decide +kernel
theorem dX1_refuse_15 : decode cX1_refuse 15 = .ok (.getfield 52, 3) := by decide +kernel
theorem dX1_refuse_18 : decode cX1_refuse 18 = .ok (.iload_n 1, 1) := by decide +kernel
theorem dX1_refuse_19 : decode cX1_refuse 19 = .ok (.dup2, 1) := by decide +kernel
theorem dX1_refuse_20 : decode cX1_refuse 20 = .ok (.iaload, 1) := by decide +kernel
theorem dX1_refuse_21 : decode cX1_refuse 21 = .ok (.iconst 1, 1) := by decide +kernel
theorem dX1_refuse_22 : decode cX1_refuse 22 = .ok (.iadd, 1) := by decide +kernel
theorem dX1_refuse_23 : decode cX1_refuse 23 = .ok (.iastore, 1) := by decide +kernel
theorem dX1_refuse_24 : decode cX1_refuse 24 = .ok (.bipush (-3), 2) := by decide +kernel
theorem dX1_refuse_26 : decode cX1_refuse 26 = .ok (.ireturn, 1) := by decide +kernel
theorem dX1_isWithin_0 : decode cX1_isWithin 0 = .ok (.iload_n 0, 1) := by decide +kernel
theorem dX1_isWithin_1 : decode cX1_isWithin 1 = .ok (.iload_n 1, 1) := by decide +kernel
theorem dX1_isWithin_2 : decode cX1_isWithin 2 = .ok (.if_icmp .lt 12, 3) := by decide +kernel
theorem dX1_isWithin_5 : decode cX1_isWithin 5 = .ok (.iload_n 0, 1) := by decide +kernel
theorem dX1_isWithin_6 : decode cX1_isWithin 6 = .ok (.iload_n 2, 1) := by decide +kernel
theorem dX1_isWithin_7 : decode cX1_isWithin 7 = .ok (.if_icmp .gt 7, 3) := by decide +kernel
theorem dX1_isWithin_10 : decode cX1_isWithin 10 = .ok (.iconst 1, 1) := by decide +kernel
theorem dX1_isWithin_11 : decode cX1_isWithin 11 = .ok (.goto 4, 3) := by decide +kernel
theorem dX1_isWithin_14 : decode cX1_isWithin 14 = .ok (.iconst 0, 1) := by decide +kernel
theorem dX1_isWithin_15 : decode cX1_isWithin 15 = .ok (.ireturn, 1) := by decide +kernel
theorem dX1_isRow_0 : decode cX1_isRow 0 = .ok (.iload_n 0, 1) := by decide +kernel
theorem dX1_isRow_1 : decode cX1_isRow 1 = .ok (.iconst 0, 1) := by decide +kernel
theorem dX1_isRow_2 : decode cX1_isRow 2 = .ok (.iconst 5, 1) := by decide +kernel
theorem dX1_isRow_3 : decode cX1_isRow 3 = .ok (.invokestatic 114, 3) := by decide +kernel
theorem dX1_isRow_6 : decode cX1_isRow 6 = .ok (.ireturn, 1) := by decide +kernel
theorem dX1_isText_0 : decode cX1_isText 0 = .ok (.iload_n 0, 1) := by decide +kernel
theorem dX1_isText_1 : decode cX1_isText 1 = .ok (.iconst 0, 1) := by decide +kernel
theorem dX1_isText_2 : decode cX1_isText 2 = .ok (.iconst 3, 1) := by decide +kernel
theorem dX1_isText_3 : decode cX1_isText 3 = .ok (.invokestatic 114, 3) := by decide +kernel
theorem dX1_isText_6 : decode cX1_isText 6 = .ok (.ireturn, 1) := by decide +kernel
theorem dX1_isPlaceToKeep_0 : decode cX1_isPlaceToKeep 0 = .ok (.iload_n 0, 1) := by decide +kernel
theorem dX1_isPlaceToKeep_1 : decode cX1_isPlaceToKeep 1 = .ok (.iconst 0, 1) := by decide +kernel
theorem dX1_isPlaceToKeep_2 : decode cX1_isPlaceToKeep 2 = .ok (.iconst 2, 1) := by decide +kernel
theorem dX1_isPlaceToKeep_3 : decode cX1_isPlaceToKeep 3 = .ok (.invokestatic 114, 3) := by decide +kernel
theorem dX1_isPlaceToKeep_6 : decode cX1_isPlaceToKeep 6 = .ok (.ireturn, 1) := by decide +kernel
theorem dX1_lookForPlace_0 : decode cX1_lookForPlace 0 = .ok (.iload_n 1, 1) := by decide +kernel
theorem dX1_lookForPlace_1 : decode cX1_lookForPlace 1 = .ok (.iconst (-1), 1) := by decide +kernel
theorem dX1_lookForPlace_2 : decode cX1_lookForPlace 2 = .ok (.if_icmp .ne 5, 3) := by decide +kernel
theorem dX1_lookForPlace_5 : decode cX1_lookForPlace 5 = .ok (.iconst 1, 1) := by decide +kernel
theorem dX1_lookForPlace_6 : decode cX1_lookForPlace 6 = .ok (.ireturn, 1) := by decide +kernel
theorem dX1_lookForPlace_7 : decode cX1_lookForPlace 7 = .ok (.iload_n 0, 1) := by decide +kernel
theorem dX1_lookForPlace_8 : decode cX1_lookForPlace 8 = .ok (.ifCond .lt 8, 3) := by decide +kernel
theorem dX1_lookForPlace_11 : decode cX1_lookForPlace 11 = .ok (.iload_n 0, 1) := by decide +kernel
theorem dX1_lookForPlace_12 : decode cX1_lookForPlace 12 = .ok (.iload_n 1, 1) := by decide +kernel
theorem dX1_lookForPlace_13 : decode cX1_lookForPlace 13 = .ok (.if_icmp .lt 7, 3) := by decide +kernel
theorem dX1_lookForPlace_16 : decode cX1_lookForPlace 16 = .ok (.iconst 2, 1) := by decide +kernel
theorem dX1_lookForPlace_17 : decode cX1_lookForPlace 17 = .ok (.goto 4, 3) := by decide +kernel
theorem dX1_lookForPlace_20 : decode cX1_lookForPlace 20 = .ok (.iconst 0, 1) := by decide +kernel
theorem dX1_lookForPlace_21 : decode cX1_lookForPlace 21 = .ok (.ireturn, 1) := by decide +kernel
theorem dX1_hasPlaces_0 : decode cX1_hasPlaces 0 = .ok (.iload_n 0, 1) := by decide +kernel
theorem dX1_hasPlaces_1 : decode cX1_hasPlaces 1 = .ok (.ifCond .lt 14, 3) := by decide +kernel
theorem dX1_hasPlaces_4 : decode cX1_hasPlaces 4 = .ok (.iload_n 0, 1) := by decide +kernel
theorem dX1_hasPlaces_5 : decode cX1_hasPlaces 5 = .ok (.iload_n 2, 1) := by decide +kernel
theorem dX1_hasPlaces_6 : decode cX1_hasPlaces 6 = .ok (.iload_n 1, 1) := by decide +kernel
theorem dX1_hasPlaces_7 : decode cX1_hasPlaces 7 = .ok (.isub, 1) := by decide +kernel
theorem dX1_hasPlaces_8 : decode cX1_hasPlaces 8 = .ok (.if_icmp .gt 7, 3) := by decide +kernel
theorem dX1_hasPlaces_11 : decode cX1_hasPlaces 11 = .ok (.iconst 1, 1) := by decide +kernel
theorem dX1_hasPlaces_12 : decode cX1_hasPlaces 12 = .ok (.goto 4, 3) := by decide +kernel
theorem dX1_hasPlaces_15 : decode cX1_hasPlaces 15 = .ok (.iconst 0, 1) := by decide +kernel
theorem dX1_hasPlaces_16 : decode cX1_hasPlaces 16 = .ok (.ireturn, 1) := by decide +kernel
theorem dX1_lookThroughHeard_0 : decode cX1_lookThroughHeard 0 = .ok (.aload_n 0, 1) := by decide +kernel
theorem dX1_lookThroughHeard_1 : decode cX1_lookThroughHeard 1 = .ok (.getfield 14, 3) := by decide +kernel
theorem dX1_lookThroughHeard_4 : decode cX1_lookThroughHeard 4 = .ok (.iload_n 1, 1) := by decide +kernel
theorem dX1_lookThroughHeard_5 : decode cX1_lookThroughHeard 5 = .ok (.iaload, 1) := by decide +kernel
theorem dX1_lookThroughHeard_6 : decode cX1_lookThroughHeard 6 = .ok (.istore_n 2, 1) := by decide +kernel
theorem dX1_lookThroughHeard_7 : decode cX1_lookThroughHeard 7 = .ok (.iload_n 2, 1) := by decide +kernel
theorem dX1_lookThroughHeard_8 : decode cX1_lookThroughHeard 8 = .ok (.iconst (-1), 1) := by decide +kernel
theorem dX1_lookThroughHeard_9 : decode cX1_lookThroughHeard 9 = .ok (.if_icmp .ne 5, 3) := by decide +kernel
theorem dX1_lookThroughHeard_12 : decode cX1_lookThroughHeard 12 = .ok (.iconst 1, 1) := by decide +kernel
theorem dX1_lookThroughHeard_13 : decode cX1_lookThroughHeard 13 = .ok (.ireturn, 1) := by decide +kernel
theorem dX1_lookThroughHeard_14 : decode cX1_lookThroughHeard 14 = .ok (.iload_n 2, 1) := by decide +kernel
theorem dX1_lookThroughHeard_15 : decode cX1_lookThroughHeard 15 = .ok (.iconst 1, 1) := by decide +kernel
theorem dX1_lookThroughHeard_16 : decode cX1_lookThroughHeard 16 = .ok (.bipush 20, 2) := by decide +kernel
theorem dX1_lookThroughHeard_18 : decode cX1_lookThroughHeard 18 = .ok (.invokestatic 114, 3) := by decide +kernel
theorem dX1_lookThroughHeard_21 : decode cX1_lookThroughHeard 21 = .ok (.ifCond .ne 5, 3) := by decide +kernel
theorem dX1_lookThroughHeard_24 : decode cX1_lookThroughHeard 24 = .ok (.iconst 5, 1) := by decide +kernel
theorem dX1_lookThroughHeard_25 : decode cX1_lookThroughHeard 25 = .ok (.ireturn, 1) := by decide +kernel
theorem dX1_lookThroughHeard_26 : decode cX1_lookThroughHeard 26 = .ok (.iconst 0, 1) := by decide +kernel
theorem dX1_lookThroughHeard_27 : decode cX1_lookThroughHeard 27 = .ok (.istore_n 3, 1) := by decide +kernel
theorem dX1_lookThroughHeard_28 : decode cX1_lookThroughHeard 28 = .ok (.iload_n 3, 1) := by decide +kernel
theorem dX1_lookThroughHeard_29 : decode cX1_lookThroughHeard 29 = .ok (.iload_n 2, 1) := by decide +kernel
theorem dX1_lookThroughHeard_30 : decode cX1_lookThroughHeard 30 = .ok (.if_icmp .ge 27, 3) := by decide +kernel
theorem dX1_lookThroughHeard_33 : decode cX1_lookThroughHeard 33 = .ok (.aload_n 0, 1) := by decide +kernel
theorem dX1_lookThroughHeard_34 : decode cX1_lookThroughHeard 34 = .ok (.getfield 11, 3) := by decide +kernel
theorem dX1_lookThroughHeard_37 : decode cX1_lookThroughHeard 37 = .ok (.iload_n 1, 1) := by decide +kernel
theorem dX1_lookThroughHeard_38 : decode cX1_lookThroughHeard 38 = .ok (.aaload, 1) := by decide +kernel
theorem dX1_lookThroughHeard_39 : decode cX1_lookThroughHeard 39 = .ok (.iload_n 3, 1) := by decide +kernel
theorem dX1_lookThroughHeard_40 : decode cX1_lookThroughHeard 40 = .ok (.iaload, 1) := by decide +kernel
theorem dX1_lookThroughHeard_41 : decode cX1_lookThroughHeard 41 = .ok (.iconst 0, 1) := by decide +kernel
theorem dX1_lookThroughHeard_42 : decode cX1_lookThroughHeard 42 = .ok (.iconst 1, 1) := by decide +kernel
theorem dX1_lookThroughHeard_43 : decode cX1_lookThroughHeard 43 = .ok (.invokestatic 114, 3) := by decide +kernel
theorem dX1_lookThroughHeard_46 : decode cX1_lookThroughHeard 46 = .ok (.ifCond .ne 5, 3) := by decide +kernel
theorem dX1_lookThroughHeard_49 : decode cX1_lookThroughHeard 49 = .ok (.iconst 3, 1) := by decide +kernel
theorem dX1_lookThroughHeard_50 : decode cX1_lookThroughHeard 50 = .ok (.ireturn, 1) := by decide +kernel
theorem dX1_lookThroughHeard_51 : decode cX1_lookThroughHeard 51 = .ok (.iinc 3 1, 3) := by decide +kernel
theorem dX1_lookThroughHeard_54 : decode cX1_lookThroughHeard 54 = .ok (.goto (-26), 3) := by decide +kernel
theorem dX1_lookThroughHeard_57 : decode cX1_lookThroughHeard 57 = .ok (.iconst 0, 1) := by decide +kernel
theorem dX1_lookThroughHeard_58 : decode cX1_lookThroughHeard 58 = .ok (.ireturn, 1) := by decide +kernel
theorem dX1_makeRow_0 : decode cX1_makeRow 0 = .ok (.iconst 0, 1) := by decide +kernel
theorem dX1_makeRow_1 : decode cX1_makeRow 1 = .ok (.istore_n 3, 1) := by decide +kernel
theorem dX1_makeRow_2 : decode cX1_makeRow 2 = .ok (.iload_n 3, 1) := by decide +kernel
theorem dX1_makeRow_3 : decode cX1_makeRow 3 = .ok (.iload_n 2, 1) := by decide +kernel
theorem dX1_makeRow_4 : decode cX1_makeRow 4 = .ok (.if_icmp .ge 18, 3) := by decide +kernel
theorem dX1_makeRow_7 : decode cX1_makeRow 7 = .ok (.aload_n 0, 1) := by decide +kernel
theorem dX1_makeRow_8 : decode cX1_makeRow 8 = .ok (.getfield 11, 3) := by decide +kernel
theorem dX1_makeRow_11 : decode cX1_makeRow 11 = .ok (.iload_n 1, 1) := by decide +kernel
theorem dX1_makeRow_12 : decode cX1_makeRow 12 = .ok (.aaload, 1) := by decide +kernel
theorem dX1_makeRow_13 : decode cX1_makeRow 13 = .ok (.iload_n 3, 1) := by decide +kernel
theorem dX1_makeRow_14 : decode cX1_makeRow 14 = .ok (.iconst 0, 1) := by decide +kernel
theorem dX1_makeRow_15 : decode cX1_makeRow 15 = .ok (.iastore, 1) := by decide +kernel
theorem dX1_makeRow_16 : decode cX1_makeRow 16 = .ok (.iinc 3 1, 3) := by decide +kernel
theorem dX1_makeRow_19 : decode cX1_makeRow 19 = .ok (.goto (-17), 3) := by decide +kernel
theorem dX1_makeRow_22 : decode cX1_makeRow 22 = .ok (.aload_n 0, 1) := by decide +kernel
theorem dX1_makeRow_23 : decode cX1_makeRow 23 = .ok (.getfield 14, 3) := by decide +kernel
theorem dX1_makeRow_26 : decode cX1_makeRow 26 = .ok (.iload_n 1, 1) := by decide +kernel
theorem dX1_makeRow_27 : decode cX1_makeRow 27 = .ok (.iload_n 2, 1) := by decide +kernel
theorem dX1_makeRow_28 : decode cX1_makeRow 28 = .ok (.iastore, 1) := by decide +kernel
theorem dX1_makeRow_29 : decode cX1_makeRow 29 = .ok (.return_, 1) := by decide +kernel
theorem dX1_hasRoomFor_0 : decode cX1_hasRoomFor 0 = .ok (.aload_n 0, 1) := by decide +kernel
theorem dX1_hasRoomFor_1 : decode cX1_hasRoomFor 1 = .ok (.getfield 39, 3) := by decide +kernel
theorem dX1_hasRoomFor_4 : decode cX1_hasRoomFor 4 = .ok (.iload_n 1, 1) := by decide +kernel
theorem dX1_hasRoomFor_5 : decode cX1_hasRoomFor 5 = .ok (.iadd, 1) := by decide +kernel
theorem dX1_hasRoomFor_6 : decode cX1_hasRoomFor 6 = .ok (.bipush 40, 2) := by decide +kernel
theorem dX1_hasRoomFor_8 : decode cX1_hasRoomFor 8 = .ok (.if_icmp .gt 7, 3) := by decide +kernel
theorem dX1_hasRoomFor_11 : decode cX1_hasRoomFor 11 = .ok (.iconst 1, 1) := by decide +kernel
theorem dX1_hasRoomFor_12 : decode cX1_hasRoomFor 12 = .ok (.goto 4, 3) := by decide +kernel
theorem dX1_hasRoomFor_15 : decode cX1_hasRoomFor 15 = .ok (.iconst 0, 1) := by decide +kernel
theorem dX1_hasRoomFor_16 : decode cX1_hasRoomFor 16 = .ok (.ireturn, 1) := by decide +kernel
theorem dX1_addDeed_0 : decode cX1_addDeed 0 = .ok (.aload_n 0, 1) := by decide +kernel
theorem dX1_addDeed_1 : decode cX1_addDeed 1 = .ok (.iconst 1, 1) := by decide +kernel
theorem dX1_addDeed_2 : decode cX1_addDeed 2 = .ok (.invokevirtual 130, 3) := by decide +kernel
theorem dX1_addDeed_5 : decode cX1_addDeed 5 = .ok (.ifCond .ne 4, 3) := by decide +kernel
theorem dX1_addDeed_8 : decode cX1_addDeed 8 = .ok (.return_, 1) := by decide +kernel
theorem dX1_addDeed_9 : decode cX1_addDeed 9 = .ok (.iload_n 1, 1) := by decide +kernel
theorem dX1_addDeed_10 : decode cX1_addDeed 10 = .ok (.bipush 12, 2) := by decide +kernel
theorem dX1_addDeed_12 : decode cX1_addDeed 12 = .ok (.ishl, 1) := by decide +kernel
theorem dX1_addDeed_13 : decode cX1_addDeed 13 = .ok (.iload_n 2, 1) := by decide +kernel
theorem dX1_addDeed_14 : decode cX1_addDeed 14 = .ok (.bipush 9, 2) := by decide +kernel
theorem dX1_addDeed_16 : decode cX1_addDeed 16 = .ok (.ishl, 1) := by decide +kernel
theorem dX1_addDeed_17 : decode cX1_addDeed 17 = .ok (.ior, 1) := by decide +kernel
theorem dX1_addDeed_18 : decode cX1_addDeed 18 = .ok (.iload_n 3, 1) := by decide +kernel
theorem dX1_addDeed_19 : decode cX1_addDeed 19 = .ok (.ior, 1) := by decide +kernel
theorem dX1_addDeed_20 : decode cX1_addDeed 20 = .ok (.istore 4, 2) := by decide +kernel
theorem dX1_addDeed_22 : decode cX1_addDeed 22 = .ok (.aload_n 0, 1) := by decide +kernel
theorem dX1_addDeed_23 : decode cX1_addDeed 23 = .ok (.getfield 36, 3) := by decide +kernel
theorem dX1_addDeed_26 : decode cX1_addDeed 26 = .ok (.aload_n 0, 1) := by decide +kernel
theorem dX1_addDeed_27 : decode cX1_addDeed 27 = .ok (.getfield 39, 3) := by decide +kernel
theorem dX1_addDeed_30 : decode cX1_addDeed 30 = .ok (.iload 4, 2) := by decide +kernel
theorem dX1_addDeed_32 : decode cX1_addDeed 32 = .ok (.iastore, 1) := by decide +kernel
theorem dX1_addDeed_33 : decode cX1_addDeed 33 = .ok (.aload_n 0, 1) := by decide +kernel
theorem dX1_addDeed_34 : decode cX1_addDeed 34 = .ok (.dup, 1) := by decide +kernel
theorem dX1_addDeed_35 : decode cX1_addDeed 35 = .ok (.getfield 39, 3) := by decide +kernel
theorem dX1_addDeed_38 : decode cX1_addDeed 38 = .ok (.iconst 1, 1) := by decide +kernel
theorem dX1_addDeed_39 : decode cX1_addDeed 39 = .ok (.iadd, 1) := by decide +kernel
theorem dX1_addDeed_40 : decode cX1_addDeed 40 = .ok (.putfield 39, 3) := by decide +kernel
theorem dX1_addDeed_43 : decode cX1_addDeed 43 = .ok (.aload_n 0, 1) := by decide +kernel
theorem dX1_addDeed_44 : decode cX1_addDeed 44 = .ok (.iload 4, 2) := by decide +kernel
theorem dX1_addDeed_46 : decode cX1_addDeed 46 = .ok (.invokevirtual 231, 3) := by decide +kernel
theorem dX1_addDeed_49 : decode cX1_addDeed 49 = .ok (.return_, 1) := by decide +kernel
theorem dX1_perform_0 : decode cX1_perform 0 = .ok (.iload_n 1, 1) := by decide +kernel
theorem dX1_perform_1 : decode cX1_perform 1 = .ok (.bipush 9, 2) := by decide +kernel
theorem dX1_perform_3 : decode cX1_perform 3 = .ok (.ishr, 1) := by decide +kernel
theorem dX1_perform_4 : decode cX1_perform 4 = .ok (.bipush 7, 2) := by decide +kernel
theorem dX1_perform_6 : decode cX1_perform 6 = .ok (.iand, 1) := by decide +kernel
theorem dX1_perform_7 : decode cX1_perform 7 = .ok (.istore_n 2, 1) := by decide +kernel
theorem dX1_perform_8 : decode cX1_perform 8 = .ok (.iload_n 1, 1) := by decide +kernel
theorem dX1_perform_9 : decode cX1_perform 9 = .ok (.sipush 511, 3) := by decide +kernel
theorem dX1_perform_12 : decode cX1_perform 12 = .ok (.iand, 1) := by decide +kernel
theorem dX1_perform_13 : decode cX1_perform 13 = .ok (.istore_n 3, 1) := by decide +kernel
theorem dX1_perform_14 : decode cX1_perform 14 = .ok (.iload_n 1, 1) := by decide +kernel
theorem dX1_perform_15 : decode cX1_perform 15 = .ok (.bipush 12, 2) := by decide +kernel
theorem dX1_perform_17 : decode cX1_perform 17 = .ok (.ishr, 1) := by decide +kernel
theorem dX1_perform_18 : decode cX1_perform 18 = .ok (.tableswitch 77 0 3 #[30, 41, 53, 65], 30) := by decide +kernel
theorem dX1_perform_48 : decode cX1_perform 48 = .ok (.aload_n 0, 1) := by decide +kernel
theorem dX1_perform_49 : decode cX1_perform 49 = .ok (.getfield 29, 3) := by decide +kernel
theorem dX1_perform_52 : decode cX1_perform 52 = .ok (.iconst 1, 1) := by decide +kernel
theorem dX1_perform_53 : decode cX1_perform 53 = .ok (.invokevirtual 159, 3) := by decide +kernel
theorem dX1_perform_56 : decode cX1_perform 56 = .ok (.goto 39, 3) := by decide +kernel
theorem dX1_perform_59 : decode cX1_perform 59 = .ok (.aload_n 0, 1) := by decide +kernel
theorem dX1_perform_60 : decode cX1_perform 60 = .ok (.getfield 29, 3) := by decide +kernel
theorem dX1_perform_63 : decode cX1_perform 63 = .ok (.iload_n 2, 1) := by decide +kernel
theorem dX1_perform_64 : decode cX1_perform 64 = .ok (.iload_n 3, 1) := by decide +kernel
theorem dX1_perform_65 : decode cX1_perform 65 = .ok (.invokevirtual 234, 3) := by decide +kernel
theorem dX1_perform_68 : decode cX1_perform 68 = .ok (.goto 27, 3) := by decide +kernel
theorem dX1_perform_71 : decode cX1_perform 71 = .ok (.aload_n 0, 1) := by decide +kernel
theorem dX1_perform_72 : decode cX1_perform 72 = .ok (.getfield 29, 3) := by decide +kernel
theorem dX1_perform_75 : decode cX1_perform 75 = .ok (.iload_n 2, 1) := by decide +kernel
theorem dX1_perform_76 : decode cX1_perform 76 = .ok (.iload_n 3, 1) := by decide +kernel
theorem dX1_perform_77 : decode cX1_perform 77 = .ok (.invokevirtual 186, 3) := by decide +kernel
theorem dX1_perform_80 : decode cX1_perform 80 = .ok (.goto 15, 3) := by decide +kernel
theorem dX1_perform_83 : decode cX1_perform 83 = .ok (.aload_n 0, 1) := by decide +kernel
theorem dX1_perform_84 : decode cX1_perform 84 = .ok (.getfield 29, 3) := by decide +kernel
theorem dX1_perform_87 : decode cX1_perform 87 = .ok (.iload_n 2, 1) := by decide +kernel
theorem dX1_perform_88 : decode cX1_perform 88 = .ok (.iload_n 3, 1) := by decide +kernel
theorem dX1_perform_89 : decode cX1_perform 89 = .ok (.invokevirtual 237, 3) := by decide +kernel
theorem dX1_perform_92 : decode cX1_perform 92 = .ok (.goto 3, 3) := by decide +kernel
theorem dX1_perform_95 : decode cX1_perform 95 = .ok (.return_, 1) := by decide +kernel
theorem dX1_doAgain_0 : decode cX1_doAgain 0 = .ok (.aload_n 0, 1) := by decide +kernel
theorem dX1_doAgain_1 : decode cX1_doAgain 1 = .ok (.getfield 29, 3) := by decide +kernel
theorem dX1_doAgain_4 : decode cX1_doAgain 4 = .ok (.invokevirtual 101, 3) := by decide +kernel
theorem dX1_doAgain_7 : decode cX1_doAgain 7 = .ok (.iconst 0, 1) := by decide +kernel
theorem dX1_doAgain_8 : decode cX1_doAgain 8 = .ok (.istore_n 1, 1) := by decide +kernel
theorem dX1_doAgain_9 : decode cX1_doAgain 9 = .ok (.iload_n 1, 1) := by decide +kernel
theorem dX1_doAgain_10 : decode cX1_doAgain 10 = .ok (.aload_n 0, 1) := by decide +kernel
theorem dX1_doAgain_11 : decode cX1_doAgain 11 = .ok (.getfield 39, 3) := by decide +kernel
theorem dX1_doAgain_14 : decode cX1_doAgain 14 = .ok (.if_icmp .ge 19, 3) := by decide +kernel
theorem dX1_doAgain_17 : decode cX1_doAgain 17 = .ok (.aload_n 0, 1) := by decide +kernel
theorem dX1_doAgain_18 : decode cX1_doAgain 18 = .ok (.aload_n 0, 1) := by decide +kernel
theorem dX1_doAgain_19 : decode cX1_doAgain 19 = .ok (.getfield 36, 3) := by decide +kernel
theorem dX1_doAgain_22 : decode cX1_doAgain 22 = .ok (.iload_n 1, 1) := by decide +kernel
theorem dX1_doAgain_23 : decode cX1_doAgain 23 = .ok (.iaload, 1) := by decide +kernel
theorem dX1_doAgain_24 : decode cX1_doAgain 24 = .ok (.invokevirtual 231, 3) := by decide +kernel
theorem dX1_doAgain_27 : decode cX1_doAgain 27 = .ok (.iinc 1 1, 3) := by decide +kernel
theorem dX1_doAgain_30 : decode cX1_doAgain 30 = .ok (.goto (-21), 3) := by decide +kernel
theorem dX1_doAgain_33 : decode cX1_doAgain 33 = .ok (.return_, 1) := by decide +kernel
theorem dX1_doByLot_0 : decode cX1_doByLot 0 = .ok (.aload_n 0, 1) := by decide +kernel
theorem dX1_doByLot_1 : decode cX1_doByLot 1 = .ok (.getfield 29, 3) := by decide +kernel
theorem dX1_doByLot_4 : decode cX1_doByLot 4 = .ok (.getfield 108, 3) := by decide +kernel
theorem dX1_doByLot_7 : decode cX1_doByLot 7 = .ok (.ifCond .gt 4, 3) := by decide +kernel
theorem dX1_doByLot_10 : decode cX1_doByLot 10 = .ok (.return_, 1) := by decide +kernel
theorem dX1_doByLot_11 : decode cX1_doByLot 11 = .ok (.iload_n 1, 1) := by decide +kernel
theorem dX1_doByLot_12 : decode cX1_doByLot 12 = .ok (.bipush 8, 2) := by decide +kernel
theorem dX1_doByLot_14 : decode cX1_doByLot 14 = .ok (.idiv, 1) := by decide +kernel
theorem dX1_doByLot_15 : decode cX1_doByLot 15 = .ok (.aload_n 0, 1) := by decide +kernel
theorem dX1_doByLot_16 : decode cX1_doByLot 16 = .ok (.getfield 29, 3) := by decide +kernel
theorem dX1_doByLot_19 : decode cX1_doByLot 19 = .ok (.getfield 108, 3) := by decide +kernel
theorem dX1_doByLot_22 : decode cX1_doByLot 22 = .ok (.irem, 1) := by decide +kernel
theorem dX1_doByLot_23 : decode cX1_doByLot 23 = .ok (.istore_n 2, 1) := by decide +kernel
theorem dX1_doByLot_24 : decode cX1_doByLot 24 = .ok (.aload_n 0, 1) := by decide +kernel
theorem dX1_doByLot_25 : decode cX1_doByLot 25 = .ok (.getfield 29, 3) := by decide +kernel
theorem dX1_doByLot_28 : decode cX1_doByLot 28 = .ok (.getfield 141, 3) := by decide +kernel
theorem dX1_doByLot_31 : decode cX1_doByLot 31 = .ok (.iload_n 2, 1) := by decide +kernel
theorem dX1_doByLot_32 : decode cX1_doByLot 32 = .ok (.iaload, 1) := by decide +kernel
theorem dX1_doByLot_33 : decode cX1_doByLot 33 = .ok (.istore_n 3, 1) := by decide +kernel
theorem dX1_doByLot_34 : decode cX1_doByLot 34 = .ok (.iload_n 1, 1) := by decide +kernel
theorem dX1_doByLot_35 : decode cX1_doByLot 35 = .ok (.bipush 8, 2) := by decide +kernel
theorem dX1_doByLot_37 : decode cX1_doByLot 37 = .ok (.irem, 1) := by decide +kernel
theorem dX1_doByLot_38 : decode cX1_doByLot 38 = .ok (.tableswitch 73 0 3 #[30, 50, 50, 50], 30) := by decide +kernel
theorem dX1_doByLot_68 : decode cX1_doByLot 68 = .ok (.aload_n 0, 1) := by decide +kernel
theorem dX1_doByLot_69 : decode cX1_doByLot 69 = .ok (.iconst 2, 1) := by decide +kernel
theorem dX1_doByLot_70 : decode cX1_doByLot 70 = .ok (.iload_n 2, 1) := by decide +kernel
theorem dX1_doByLot_71 : decode cX1_doByLot 71 = .ok (.iload_n 2, 1) := by decide +kernel
theorem dX1_doByLot_72 : decode cX1_doByLot 72 = .ok (.iconst 1, 1) := by decide +kernel
theorem dX1_doByLot_73 : decode cX1_doByLot 73 = .ok (.iadd, 1) := by decide +kernel
theorem dX1_doByLot_74 : decode cX1_doByLot 74 = .ok (.aload_n 0, 1) := by decide +kernel
theorem dX1_doByLot_75 : decode cX1_doByLot 75 = .ok (.getfield 29, 3) := by decide +kernel
theorem dX1_doByLot_78 : decode cX1_doByLot 78 = .ok (.getfield 108, 3) := by decide +kernel
theorem dX1_doByLot_81 : decode cX1_doByLot 81 = .ok (.irem, 1) := by decide +kernel
theorem dX1_doByLot_82 : decode cX1_doByLot 82 = .ok (.invokevirtual 133, 3) := by decide +kernel
theorem dX1_doByLot_85 : decode cX1_doByLot 85 = .ok (.goto 49, 3) := by decide +kernel
theorem dX1_doByLot_88 : decode cX1_doByLot 88 = .ok (.aload_n 0, 1) := by decide +kernel
theorem dX1_doByLot_89 : decode cX1_doByLot 89 = .ok (.iconst 1, 1) := by decide +kernel
theorem dX1_doByLot_90 : decode cX1_doByLot 90 = .ok (.iload_n 2, 1) := by decide +kernel
theorem dX1_doByLot_91 : decode cX1_doByLot 91 = .ok (.iload_n 3, 1) := by decide +kernel
theorem dX1_doByLot_92 : decode cX1_doByLot 92 = .ok (.ifCond .le 12, 3) := by decide +kernel
theorem dX1_doByLot_95 : decode cX1_doByLot 95 = .ok (.iload_n 1, 1) := by decide +kernel
theorem dX1_doByLot_96 : decode cX1_doByLot 96 = .ok (.bipush 64, 2) := by decide +kernel
theorem dX1_doByLot_98 : decode cX1_doByLot 98 = .ok (.idiv, 1) := by decide +kernel
theorem dX1_doByLot_99 : decode cX1_doByLot 99 = .ok (.iload_n 3, 1) := by decide +kernel
theorem dX1_doByLot_100 : decode cX1_doByLot 100 = .ok (.irem, 1) := by decide +kernel
theorem dX1_doByLot_101 : decode cX1_doByLot 101 = .ok (.goto 4, 3) := by decide +kernel
theorem dX1_doByLot_104 : decode cX1_doByLot 104 = .ok (.iconst 0, 1) := by decide +kernel
theorem dX1_doByLot_105 : decode cX1_doByLot 105 = .ok (.invokevirtual 133, 3) := by decide +kernel
theorem dX1_doByLot_108 : decode cX1_doByLot 108 = .ok (.goto 26, 3) := by decide +kernel
theorem dX1_doByLot_111 : decode cX1_doByLot 111 = .ok (.aload_n 0, 1) := by decide +kernel
theorem dX1_doByLot_112 : decode cX1_doByLot 112 = .ok (.aload_n 0, 1) := by decide +kernel
theorem dX1_doByLot_113 : decode cX1_doByLot 113 = .ok (.getfield 29, 3) := by decide +kernel
theorem dX1_doByLot_116 : decode cX1_doByLot 116 = .ok (.getfield 127, 3) := by decide +kernel
theorem dX1_doByLot_119 : decode cX1_doByLot 119 = .ok (.bipush 99, 2) := by decide +kernel
theorem dX1_doByLot_121 : decode cX1_doByLot 121 = .ok (.if_icmp .ge 7, 3) := by decide +kernel
theorem dX1_doByLot_124 : decode cX1_doByLot 124 = .ok (.iconst 0, 1) := by decide +kernel
theorem dX1_doByLot_125 : decode cX1_doByLot 125 = .ok (.goto 4, 3) := by decide +kernel
theorem dX1_doByLot_128 : decode cX1_doByLot 128 = .ok (.iconst 4, 1) := by decide +kernel
theorem dX1_doByLot_129 : decode cX1_doByLot 129 = .ok (.iconst 0, 1) := by decide +kernel
theorem dX1_doByLot_130 : decode cX1_doByLot 130 = .ok (.iconst 0, 1) := by decide +kernel
theorem dX1_doByLot_131 : decode cX1_doByLot 131 = .ok (.invokevirtual 133, 3) := by decide +kernel
theorem dX1_doByLot_134 : decode cX1_doByLot 134 = .ok (.return_, 1) := by decide +kernel
theorem dX1_comesBack_0 : decode cX1_comesBack 0 = .ok (.aload_n 0, 1) := by decide +kernel
theorem dX1_comesBack_1 : decode cX1_comesBack 1 = .ok (.getfield 33, 3) := by decide +kernel
theorem dX1_comesBack_4 : decode cX1_comesBack 4 = .ok (.aload_n 0, 1) := by decide +kernel
theorem dX1_comesBack_5 : decode cX1_comesBack 5 = .ok (.getfield 29, 3) := by decide +kernel
theorem dX1_comesBack_8 : decode cX1_comesBack 8 = .ok (.invokevirtual 104, 3) := by decide +kernel
theorem dX1_comesBack_11 : decode cX1_comesBack 11 = .ok (.aload_n 0, 1) := by decide +kernel
theorem dX1_comesBack_12 : decode cX1_comesBack 12 = .ok (.getfield 33, 3) := by decide +kernel
theorem dX1_comesBack_15 : decode cX1_comesBack 15 = .ok (.iload_n 1, 1) := by decide +kernel
theorem dX1_comesBack_16 : decode cX1_comesBack 16 = .ok (.iload_n 2, 1) := by decide +kernel
theorem dX1_comesBack_17 : decode cX1_comesBack 17 = .ok (.invokevirtual 237, 3) := by decide +kernel
theorem dX1_comesBack_20 : decode cX1_comesBack 20 = .ok (.iconst 1, 1) := by decide +kernel
theorem dX1_comesBack_21 : decode cX1_comesBack 21 = .ok (.istore_n 3, 1) := by decide +kernel
theorem dX1_comesBack_22 : decode cX1_comesBack 22 = .ok (.iload_n 3, 1) := by decide +kernel
theorem dX1_comesBack_23 : decode cX1_comesBack 23 = .ok (.bipush 60, 2) := by decide +kernel
theorem dX1_comesBack_25 : decode cX1_comesBack 25 = .ok (.if_icmp .gt 32, 3) := by decide +kernel
theorem dX1_comesBack_28 : decode cX1_comesBack 28 = .ok (.aload_n 0, 1) := by decide +kernel
theorem dX1_comesBack_29 : decode cX1_comesBack 29 = .ok (.getfield 33, 3) := by decide +kernel
theorem dX1_comesBack_32 : decode cX1_comesBack 32 = .ok (.iconst 1, 1) := by decide +kernel
theorem dX1_comesBack_33 : decode cX1_comesBack 33 = .ok (.invokevirtual 159, 3) := by decide +kernel
theorem dX1_comesBack_36 : decode cX1_comesBack 36 = .ok (.aload_n 0, 1) := by decide +kernel
theorem dX1_comesBack_37 : decode cX1_comesBack 37 = .ok (.getfield 33, 3) := by decide +kernel
theorem dX1_comesBack_40 : decode cX1_comesBack 40 = .ok (.getfield 144, 3) := by decide +kernel
theorem dX1_comesBack_43 : decode cX1_comesBack 43 = .ok (.iload_n 1, 1) := by decide +kernel
theorem dX1_comesBack_44 : decode cX1_comesBack 44 = .ok (.iaload, 1) := by decide +kernel
theorem dX1_comesBack_45 : decode cX1_comesBack 45 = .ok (.iload_n 2, 1) := by decide +kernel
theorem dX1_comesBack_46 : decode cX1_comesBack 46 = .ok (.if_icmp .ne 5, 3) := by decide +kernel
theorem dX1_comesBack_49 : decode cX1_comesBack 49 = .ok (.iload_n 3, 1) := by decide +kernel
theorem dX1_comesBack_50 : decode cX1_comesBack 50 = .ok (.ireturn, 1) := by decide +kernel
theorem dX1_comesBack_51 : decode cX1_comesBack 51 = .ok (.iinc 3 1, 3) := by decide +kernel
theorem dX1_comesBack_54 : decode cX1_comesBack 54 = .ok (.goto (-32), 3) := by decide +kernel
theorem dX1_comesBack_57 : decode cX1_comesBack 57 = .ok (.bipush 61, 2) := by decide +kernel
theorem dX1_comesBack_59 : decode cX1_comesBack 59 = .ok (.ireturn, 1) := by decide +kernel
theorem dX1_isHeard_0 : decode cX1_isHeard 0 = .ok (.aload_n 0, 1) := by decide +kernel
theorem dX1_isHeard_1 : decode cX1_isHeard 1 = .ok (.getfield 14, 3) := by decide +kernel
theorem dX1_isHeard_4 : decode cX1_isHeard 4 = .ok (.iload_n 2, 1) := by decide +kernel
theorem dX1_isHeard_5 : decode cX1_isHeard 5 = .ok (.iaload, 1) := by decide +kernel
theorem dX1_isHeard_6 : decode cX1_isHeard 6 = .ok (.istore_n 3, 1) := by decide +kernel
theorem dX1_isHeard_7 : decode cX1_isHeard 7 = .ok (.iconst 0, 1) := by decide +kernel
theorem dX1_isHeard_8 : decode cX1_isHeard 8 = .ok (.istore 4, 2) := by decide +kernel
theorem dX1_isHeard_10 : decode cX1_isHeard 10 = .ok (.iconst 0, 1) := by decide +kernel
theorem dX1_isHeard_11 : decode cX1_isHeard 11 = .ok (.istore 5, 2) := by decide +kernel
theorem dX1_isHeard_13 : decode cX1_isHeard 13 = .ok (.iload 5, 2) := by decide +kernel
theorem dX1_isHeard_15 : decode cX1_isHeard 15 = .ok (.bipush 60, 2) := by decide +kernel
theorem dX1_isHeard_17 : decode cX1_isHeard 17 = .ok (.if_icmp .ge 59, 3) := by decide +kernel
theorem dX1_isHeard_20 : decode cX1_isHeard 20 = .ok (.iload 4, 2) := by decide +kernel
theorem dX1_isHeard_22 : decode cX1_isHeard 22 = .ok (.iload_n 3, 1) := by decide +kernel
theorem dX1_isHeard_23 : decode cX1_isHeard 23 = .ok (.if_icmp .ge 53, 3) := by decide +kernel
theorem dX1_isHeard_26 : decode cX1_isHeard 26 = .ok (.aload_n 0, 1) := by decide +kernel
theorem dX1_isHeard_27 : decode cX1_isHeard 27 = .ok (.getfield 33, 3) := by decide +kernel
theorem dX1_isHeard_30 : decode cX1_isHeard 30 = .ok (.iload_n 1, 1) := by decide +kernel
theorem dX1_isHeard_31 : decode cX1_isHeard 31 = .ok (.invokevirtual 163, 3) := by decide +kernel
theorem dX1_isHeard_34 : decode cX1_isHeard 34 = .ok (.ifCond .eq 28, 3) := by decide +kernel
theorem dX1_isHeard_37 : decode cX1_isHeard 37 = .ok (.aload_n 0, 1) := by decide +kernel
theorem dX1_isHeard_38 : decode cX1_isHeard 38 = .ok (.getfield 33, 3) := by decide +kernel
theorem dX1_isHeard_41 : decode cX1_isHeard 41 = .ok (.iload_n 1, 1) := by decide +kernel
theorem dX1_isHeard_42 : decode cX1_isHeard 42 = .ok (.invokevirtual 166, 3) := by decide +kernel
theorem dX1_isHeard_45 : decode cX1_isHeard 45 = .ok (.aload_n 0, 1) := by decide +kernel
theorem dX1_isHeard_46 : decode cX1_isHeard 46 = .ok (.getfield 11, 3) := by decide +kernel
theorem dX1_isHeard_49 : decode cX1_isHeard 49 = .ok (.iload_n 2, 1) := by decide +kernel
theorem dX1_isHeard_50 : decode cX1_isHeard 50 = .ok (.aaload, 1) := by decide +kernel
theorem dX1_isHeard_51 : decode cX1_isHeard 51 = .ok (.iload 4, 2) := by decide +kernel
theorem dX1_isHeard_53 : decode cX1_isHeard 53 = .ok (.iaload, 1) := by decide +kernel
theorem dX1_isHeard_54 : decode cX1_isHeard 54 = .ok (.if_icmp .eq 5, 3) := by decide +kernel
theorem dX1_isHeard_57 : decode cX1_isHeard 57 = .ok (.iconst 0, 1) := by decide +kernel
theorem dX1_isHeard_58 : decode cX1_isHeard 58 = .ok (.ireturn, 1) := by decide +kernel
theorem dX1_isHeard_59 : decode cX1_isHeard 59 = .ok (.iinc 4 1, 3) := by decide +kernel
theorem dX1_isHeard_62 : decode cX1_isHeard 62 = .ok (.aload_n 0, 1) := by decide +kernel
theorem dX1_isHeard_63 : decode cX1_isHeard 63 = .ok (.getfield 33, 3) := by decide +kernel
theorem dX1_isHeard_66 : decode cX1_isHeard 66 = .ok (.iconst 1, 1) := by decide +kernel
theorem dX1_isHeard_67 : decode cX1_isHeard 67 = .ok (.invokevirtual 159, 3) := by decide +kernel
theorem dX1_isHeard_70 : decode cX1_isHeard 70 = .ok (.iinc 5 1, 3) := by decide +kernel
theorem dX1_isHeard_73 : decode cX1_isHeard 73 = .ok (.goto (-60), 3) := by decide +kernel
theorem dX1_isHeard_76 : decode cX1_isHeard 76 = .ok (.iload 4, 2) := by decide +kernel
theorem dX1_isHeard_78 : decode cX1_isHeard 78 = .ok (.iload_n 3, 1) := by decide +kernel
theorem dX1_isHeard_79 : decode cX1_isHeard 79 = .ok (.if_icmp .ne 7, 3) := by decide +kernel
theorem dX1_isHeard_82 : decode cX1_isHeard 82 = .ok (.iconst 1, 1) := by decide +kernel
theorem dX1_isHeard_83 : decode cX1_isHeard 83 = .ok (.goto 4, 3) := by decide +kernel
theorem dX1_isHeard_86 : decode cX1_isHeard 86 = .ok (.iconst 0, 1) := by decide +kernel
theorem dX1_isHeard_87 : decode cX1_isHeard 87 = .ok (.ireturn, 1) := by decide +kernel
theorem dX1_kindsHeard_0 : decode cX1_kindsHeard 0 = .ok (.iconst 0, 1) := by decide +kernel
theorem dX1_kindsHeard_1 : decode cX1_kindsHeard 1 = .ok (.istore_n 3, 1) := by decide +kernel
theorem dX1_kindsHeard_2 : decode cX1_kindsHeard 2 = .ok (.iconst 0, 1) := by decide +kernel
theorem dX1_kindsHeard_3 : decode cX1_kindsHeard 3 = .ok (.istore 4, 2) := by decide +kernel
theorem dX1_kindsHeard_5 : decode cX1_kindsHeard 5 = .ok (.iload 4, 2) := by decide +kernel
theorem dX1_kindsHeard_7 : decode cX1_kindsHeard 7 = .ok (.bipush 6, 2) := by decide +kernel
theorem dX1_kindsHeard_9 : decode cX1_kindsHeard 9 = .ok (.if_icmp .ge 47, 3) := by decide +kernel
theorem dX1_kindsHeard_12 : decode cX1_kindsHeard 12 = .ok (.aload_n 0, 1) := by decide +kernel
theorem dX1_kindsHeard_13 : decode cX1_kindsHeard 13 = .ok (.getfield 33, 3) := by decide +kernel
theorem dX1_kindsHeard_16 : decode cX1_kindsHeard 16 = .ok (.aload_n 0, 1) := by decide +kernel
theorem dX1_kindsHeard_17 : decode cX1_kindsHeard 17 = .ok (.getfield 29, 3) := by decide +kernel
theorem dX1_kindsHeard_20 : decode cX1_kindsHeard 20 = .ok (.invokevirtual 104, 3) := by decide +kernel
theorem dX1_kindsHeard_23 : decode cX1_kindsHeard 23 = .ok (.aload_n 0, 1) := by decide +kernel
theorem dX1_kindsHeard_24 : decode cX1_kindsHeard 24 = .ok (.getfield 33, 3) := by decide +kernel
theorem dX1_kindsHeard_27 : decode cX1_kindsHeard 27 = .ok (.getfield 240, 3) := by decide +kernel
theorem dX1_kindsHeard_30 : decode cX1_kindsHeard 30 = .ok (.iload_n 1, 1) := by decide +kernel
theorem dX1_kindsHeard_31 : decode cX1_kindsHeard 31 = .ok (.iload 4, 2) := by decide +kernel
theorem dX1_kindsHeard_33 : decode cX1_kindsHeard 33 = .ok (.iastore, 1) := by decide +kernel
theorem dX1_kindsHeard_34 : decode cX1_kindsHeard 34 = .ok (.aload_n 0, 1) := by decide +kernel
theorem dX1_kindsHeard_35 : decode cX1_kindsHeard 35 = .ok (.iload_n 1, 1) := by decide +kernel
theorem dX1_kindsHeard_36 : decode cX1_kindsHeard 36 = .ok (.iload_n 2, 1) := by decide +kernel
theorem dX1_kindsHeard_37 : decode cX1_kindsHeard 37 = .ok (.invokevirtual 198, 3) := by decide +kernel
theorem dX1_kindsHeard_40 : decode cX1_kindsHeard 40 = .ok (.ifCond .eq 10, 3) := by decide +kernel
theorem dX1_kindsHeard_43 : decode cX1_kindsHeard 43 = .ok (.iload_n 3, 1) := by decide +kernel
theorem dX1_kindsHeard_44 : decode cX1_kindsHeard 44 = .ok (.iconst 1, 1) := by decide +kernel
theorem dX1_kindsHeard_45 : decode cX1_kindsHeard 45 = .ok (.iload 4, 2) := by decide +kernel
theorem dX1_kindsHeard_47 : decode cX1_kindsHeard 47 = .ok (.ishl, 1) := by decide +kernel
theorem dX1_kindsHeard_48 : decode cX1_kindsHeard 48 = .ok (.ior, 1) := by decide +kernel
theorem dX1_kindsHeard_49 : decode cX1_kindsHeard 49 = .ok (.istore_n 3, 1) := by decide +kernel
theorem dX1_kindsHeard_50 : decode cX1_kindsHeard 50 = .ok (.iinc 4 1, 3) := by decide +kernel
theorem dX1_kindsHeard_53 : decode cX1_kindsHeard 53 = .ok (.goto (-48), 3) := by decide +kernel
theorem dX1_kindsHeard_56 : decode cX1_kindsHeard 56 = .ok (.iload_n 3, 1) := by decide +kernel
theorem dX1_kindsHeard_57 : decode cX1_kindsHeard 57 = .ok (.ireturn, 1) := by decide +kernel
theorem dX1_lookAhead_0 : decode cX1_lookAhead 0 = .ok (.iconst 0, 1) := by decide +kernel
theorem dX1_lookAhead_1 : decode cX1_lookAhead 1 = .ok (.istore_n 2, 1) := by decide +kernel
theorem dX1_lookAhead_2 : decode cX1_lookAhead 2 = .ok (.iload_n 2, 1) := by decide +kernel
theorem dX1_lookAhead_3 : decode cX1_lookAhead 3 = .ok (.bipush 6, 2) := by decide +kernel
theorem dX1_lookAhead_5 : decode cX1_lookAhead 5 = .ok (.if_icmp .ge 69, 3) := by decide +kernel
theorem dX1_lookAhead_8 : decode cX1_lookAhead 8 = .ok (.aload_n 0, 1) := by decide +kernel
theorem dX1_lookAhead_9 : decode cX1_lookAhead 9 = .ok (.getfield 33, 3) := by decide +kernel
theorem dX1_lookAhead_12 : decode cX1_lookAhead 12 = .ok (.aload_n 0, 1) := by decide +kernel
theorem dX1_lookAhead_13 : decode cX1_lookAhead 13 = .ok (.getfield 29, 3) := by decide +kernel
theorem dX1_lookAhead_16 : decode cX1_lookAhead 16 = .ok (.invokevirtual 104, 3) := by decide +kernel
theorem dX1_lookAhead_19 : decode cX1_lookAhead 19 = .ok (.aload_n 0, 1) := by decide +kernel
theorem dX1_lookAhead_20 : decode cX1_lookAhead 20 = .ok (.getfield 33, 3) := by decide +kernel
theorem dX1_lookAhead_23 : decode cX1_lookAhead 23 = .ok (.getfield 240, 3) := by decide +kernel
theorem dX1_lookAhead_26 : decode cX1_lookAhead 26 = .ok (.iload_n 1, 1) := by decide +kernel
theorem dX1_lookAhead_27 : decode cX1_lookAhead 27 = .ok (.iload_n 2, 1) := by decide +kernel
theorem dX1_lookAhead_28 : decode cX1_lookAhead 28 = .ok (.iastore, 1) := by decide +kernel
theorem dX1_lookAhead_29 : decode cX1_lookAhead 29 = .ok (.iconst 0, 1) := by decide +kernel
theorem dX1_lookAhead_30 : decode cX1_lookAhead 30 = .ok (.istore_n 3, 1) := by decide +kernel
theorem dX1_lookAhead_31 : decode cX1_lookAhead 31 = .ok (.iload_n 3, 1) := by decide +kernel
theorem dX1_lookAhead_32 : decode cX1_lookAhead 32 = .ok (.bipush 20, 2) := by decide +kernel
theorem dX1_lookAhead_34 : decode cX1_lookAhead 34 = .ok (.if_icmp .ge 34, 3) := by decide +kernel
theorem dX1_lookAhead_37 : decode cX1_lookAhead 37 = .ok (.aload_n 0, 1) := by decide +kernel
theorem dX1_lookAhead_38 : decode cX1_lookAhead 38 = .ok (.getfield 33, 3) := by decide +kernel
theorem dX1_lookAhead_41 : decode cX1_lookAhead 41 = .ok (.iconst 1, 1) := by decide +kernel
theorem dX1_lookAhead_42 : decode cX1_lookAhead 42 = .ok (.invokevirtual 159, 3) := by decide +kernel
theorem dX1_lookAhead_45 : decode cX1_lookAhead 45 = .ok (.aload_n 0, 1) := by decide +kernel
theorem dX1_lookAhead_46 : decode cX1_lookAhead 46 = .ok (.getfield 49, 3) := by decide +kernel
theorem dX1_lookAhead_49 : decode cX1_lookAhead 49 = .ok (.iload_n 2, 1) := by decide +kernel
theorem dX1_lookAhead_50 : decode cX1_lookAhead 50 = .ok (.aaload, 1) := by decide +kernel
theorem dX1_lookAhead_51 : decode cX1_lookAhead 51 = .ok (.iload_n 3, 1) := by decide +kernel
theorem dX1_lookAhead_52 : decode cX1_lookAhead 52 = .ok (.aload_n 0, 1) := by decide +kernel
theorem dX1_lookAhead_53 : decode cX1_lookAhead 53 = .ok (.getfield 33, 3) := by decide +kernel
theorem dX1_lookAhead_56 : decode cX1_lookAhead 56 = .ok (.getfield 144, 3) := by decide +kernel
theorem dX1_lookAhead_59 : decode cX1_lookAhead 59 = .ok (.iload_n 1, 1) := by decide +kernel
theorem dX1_lookAhead_60 : decode cX1_lookAhead 60 = .ok (.iaload, 1) := by decide +kernel
theorem dX1_lookAhead_61 : decode cX1_lookAhead 61 = .ok (.iastore, 1) := by decide +kernel
theorem dX1_lookAhead_62 : decode cX1_lookAhead 62 = .ok (.iinc 3 1, 3) := by decide +kernel
theorem dX1_lookAhead_65 : decode cX1_lookAhead 65 = .ok (.goto (-34), 3) := by decide +kernel
theorem dX1_lookAhead_68 : decode cX1_lookAhead 68 = .ok (.iinc 2 1, 3) := by decide +kernel
theorem dX1_lookAhead_71 : decode cX1_lookAhead 71 = .ok (.goto (-69), 3) := by decide +kernel
theorem dX1_lookAhead_74 : decode cX1_lookAhead 74 = .ok (.return_, 1) := by decide +kernel
theorem dX1_greatestPart_0 : decode cX1_greatestPart 0 = .ok (.iconst 0, 1) := by decide +kernel
theorem dX1_greatestPart_1 : decode cX1_greatestPart 1 = .ok (.istore_n 3, 1) := by decide +kernel
theorem dX1_greatestPart_2 : decode cX1_greatestPart 2 = .ok (.iconst 0, 1) := by decide +kernel
theorem dX1_greatestPart_3 : decode cX1_greatestPart 3 = .ok (.istore 4, 2) := by decide +kernel
theorem dX1_greatestPart_5 : decode cX1_greatestPart 5 = .ok (.iload 4, 2) := by decide +kernel
theorem dX1_greatestPart_7 : decode cX1_greatestPart 7 = .ok (.bipush 6, 2) := by decide +kernel
theorem dX1_greatestPart_9 : decode cX1_greatestPart 9 = .ok (.if_icmp .ge 74, 3) := by decide +kernel
theorem dX1_greatestPart_12 : decode cX1_greatestPart 12 = .ok (.iconst 0, 1) := by decide +kernel
theorem dX1_greatestPart_13 : decode cX1_greatestPart 13 = .ok (.istore 5, 2) := by decide +kernel
theorem dX1_greatestPart_15 : decode cX1_greatestPart 15 = .ok (.iconst 0, 1) := by decide +kernel
theorem dX1_greatestPart_16 : decode cX1_greatestPart 16 = .ok (.istore 6, 2) := by decide +kernel
theorem dX1_greatestPart_18 : decode cX1_greatestPart 18 = .ok (.iload 6, 2) := by decide +kernel
theorem dX1_greatestPart_20 : decode cX1_greatestPart 20 = .ok (.bipush 6, 2) := by decide +kernel
theorem dX1_greatestPart_22 : decode cX1_greatestPart 22 = .ok (.if_icmp .ge 48, 3) := by decide +kernel
theorem dX1_greatestPart_25 : decode cX1_greatestPart 25 = .ok (.iload_n 1, 1) := by decide +kernel
theorem dX1_greatestPart_26 : decode cX1_greatestPart 26 = .ok (.iload 4, 2) := by decide +kernel
theorem dX1_greatestPart_28 : decode cX1_greatestPart 28 = .ok (.ishr, 1) := by decide +kernel
theorem dX1_greatestPart_29 : decode cX1_greatestPart 29 = .ok (.iload_n 1, 1) := by decide +kernel
theorem dX1_greatestPart_30 : decode cX1_greatestPart 30 = .ok (.iload 6, 2) := by decide +kernel
theorem dX1_greatestPart_32 : decode cX1_greatestPart 32 = .ok (.ishr, 1) := by decide +kernel
theorem dX1_greatestPart_33 : decode cX1_greatestPart 33 = .ok (.iand, 1) := by decide +kernel
theorem dX1_greatestPart_34 : decode cX1_greatestPart 34 = .ok (.iconst 1, 1) := by decide +kernel
theorem dX1_greatestPart_35 : decode cX1_greatestPart 35 = .ok (.iand, 1) := by decide +kernel
theorem dX1_greatestPart_36 : decode cX1_greatestPart 36 = .ok (.iconst 1, 1) := by decide +kernel
theorem dX1_greatestPart_37 : decode cX1_greatestPart 37 = .ok (.if_icmp .ne 27, 3) := by decide +kernel
theorem dX1_greatestPart_40 : decode cX1_greatestPart 40 = .ok (.aload_n 0, 1) := by decide +kernel
theorem dX1_greatestPart_41 : decode cX1_greatestPart 41 = .ok (.getfield 49, 3) := by decide +kernel
theorem dX1_greatestPart_44 : decode cX1_greatestPart 44 = .ok (.iload 4, 2) := by decide +kernel
theorem dX1_greatestPart_46 : decode cX1_greatestPart 46 = .ok (.aaload, 1) := by decide +kernel
theorem dX1_greatestPart_47 : decode cX1_greatestPart 47 = .ok (.iload_n 2, 1) := by decide +kernel
theorem dX1_greatestPart_48 : decode cX1_greatestPart 48 = .ok (.iaload, 1) := by decide +kernel
theorem dX1_greatestPart_49 : decode cX1_greatestPart 49 = .ok (.aload_n 0, 1) := by decide +kernel
theorem dX1_greatestPart_50 : decode cX1_greatestPart 50 = .ok (.getfield 49, 3) := by decide +kernel
theorem dX1_greatestPart_53 : decode cX1_greatestPart 53 = .ok (.iload 6, 2) := by decide +kernel
theorem dX1_greatestPart_55 : decode cX1_greatestPart 55 = .ok (.aaload, 1) := by decide +kernel
theorem dX1_greatestPart_56 : decode cX1_greatestPart 56 = .ok (.iload_n 2, 1) := by decide +kernel
theorem dX1_greatestPart_57 : decode cX1_greatestPart 57 = .ok (.iaload, 1) := by decide +kernel
theorem dX1_greatestPart_58 : decode cX1_greatestPart 58 = .ok (.if_icmp .ne 6, 3) := by decide +kernel
theorem dX1_greatestPart_61 : decode cX1_greatestPart 61 = .ok (.iinc 5 1, 3) := by decide +kernel
theorem dX1_greatestPart_64 : decode cX1_greatestPart 64 = .ok (.iinc 6 1, 3) := by decide +kernel
theorem dX1_greatestPart_67 : decode cX1_greatestPart 67 = .ok (.goto (-49), 3) := by decide +kernel
theorem dX1_greatestPart_70 : decode cX1_greatestPart 70 = .ok (.iload_n 3, 1) := by decide +kernel
theorem dX1_greatestPart_71 : decode cX1_greatestPart 71 = .ok (.iload 5, 2) := by decide +kernel
theorem dX1_greatestPart_73 : decode cX1_greatestPart 73 = .ok (.invokestatic 243, 3) := by decide +kernel
theorem dX1_greatestPart_76 : decode cX1_greatestPart 76 = .ok (.istore_n 3, 1) := by decide +kernel
theorem dX1_greatestPart_77 : decode cX1_greatestPart 77 = .ok (.iinc 4 1, 3) := by decide +kernel
theorem dX1_greatestPart_80 : decode cX1_greatestPart 80 = .ok (.goto (-75), 3) := by decide +kernel
theorem dX1_greatestPart_83 : decode cX1_greatestPart 83 = .ok (.iload_n 3, 1) := by decide +kernel
theorem dX1_greatestPart_84 : decode cX1_greatestPart 84 = .ok (.ireturn, 1) := by decide +kernel
theorem dX1_playOut_0 : decode cX1_playOut 0 = .ok (.iload_n 2, 1) := by decide +kernel
theorem dX1_playOut_1 : decode cX1_playOut 1 = .ok (.iload_n 3, 1) := by decide +kernel
theorem dX1_playOut_2 : decode cX1_playOut 2 = .ok (.if_icmp .ge 8, 3) := by decide +kernel
theorem dX1_playOut_5 : decode cX1_playOut 5 = .ok (.iload_n 2, 1) := by decide +kernel
theorem dX1_playOut_6 : decode cX1_playOut 6 = .ok (.iconst 3, 1) := by decide +kernel
theorem dX1_playOut_7 : decode cX1_playOut 7 = .ok (.if_icmp .lt 9, 3) := by decide +kernel
theorem dX1_playOut_10 : decode cX1_playOut 10 = .ok (.aload_n 0, 1) := by decide +kernel
theorem dX1_playOut_11 : decode cX1_playOut 11 = .ok (.iload_n 1, 1) := by decide +kernel
theorem dX1_playOut_12 : decode cX1_playOut 12 = .ok (.invokevirtual 246, 3) := by decide +kernel
theorem dX1_playOut_15 : decode cX1_playOut 15 = .ok (.ireturn, 1) := by decide +kernel
theorem dX1_playOut_16 : decode cX1_playOut 16 = .ok (.iload_n 2, 1) := by decide +kernel
theorem dX1_playOut_17 : decode cX1_playOut 17 = .ok (.iconst 2, 1) := by decide +kernel
theorem dX1_playOut_18 : decode cX1_playOut 18 = .ok (.irem, 1) := by decide +kernel
theorem dX1_playOut_19 : decode cX1_playOut 19 = .ok (.ifCond .ne 7, 3) := by decide +kernel
theorem dX1_playOut_22 : decode cX1_playOut 22 = .ok (.iconst 1, 1) := by decide +kernel
theorem dX1_playOut_23 : decode cX1_playOut 23 = .ok (.goto 4, 3) := by decide +kernel
theorem dX1_playOut_26 : decode cX1_playOut 26 = .ok (.iconst 0, 1) := by decide +kernel
theorem dX1_playOut_27 : decode cX1_playOut 27 = .ok (.istore 4, 2) := by decide +kernel
theorem dX1_playOut_29 : decode cX1_playOut 29 = .ok (.aload_n 0, 1) := by decide +kernel
theorem dX1_playOut_30 : decode cX1_playOut 30 = .ok (.iload_n 1, 1) := by decide +kernel
theorem dX1_playOut_31 : decode cX1_playOut 31 = .ok (.iload_n 2, 1) := by decide +kernel
theorem dX1_playOut_32 : decode cX1_playOut 32 = .ok (.iconst 1, 1) := by decide +kernel
theorem dX1_playOut_33 : decode cX1_playOut 33 = .ok (.iadd, 1) := by decide +kernel
theorem dX1_playOut_34 : decode cX1_playOut 34 = .ok (.iload_n 3, 1) := by decide +kernel
theorem dX1_playOut_35 : decode cX1_playOut 35 = .ok (.invokevirtual 210, 3) := by decide +kernel
theorem dX1_playOut_38 : decode cX1_playOut 38 = .ok (.istore 5, 2) := by decide +kernel
theorem dX1_playOut_40 : decode cX1_playOut 40 = .ok (.iconst 0, 1) := by decide +kernel
theorem dX1_playOut_41 : decode cX1_playOut 41 = .ok (.istore 6, 2) := by decide +kernel
theorem dX1_playOut_43 : decode cX1_playOut 43 = .ok (.iload 6, 2) := by decide +kernel
theorem dX1_playOut_45 : decode cX1_playOut 45 = .ok (.aload_n 0, 1) := by decide +kernel
theorem dX1_playOut_46 : decode cX1_playOut 46 = .ok (.getfield 29, 3) := by decide +kernel
theorem dX1_playOut_49 : decode cX1_playOut 49 = .ok (.getfield 108, 3) := by decide +kernel
theorem dX1_playOut_52 : decode cX1_playOut 52 = .ok (.if_icmp .ge 75, 3) := by decide +kernel
theorem dX1_playOut_55 : decode cX1_playOut 55 = .ok (.iload 4, 2) := by decide +kernel
theorem dX1_playOut_57 : decode cX1_playOut 57 = .ok (.ifCond .eq 12, 3) := by decide +kernel
theorem dX1_playOut_60 : decode cX1_playOut 60 = .ok (.iload_n 1, 1) := by decide +kernel
theorem dX1_playOut_61 : decode cX1_playOut 61 = .ok (.iconst 1, 1) := by decide +kernel
theorem dX1_playOut_62 : decode cX1_playOut 62 = .ok (.iload 6, 2) := by decide +kernel
theorem dX1_playOut_64 : decode cX1_playOut 64 = .ok (.ishl, 1) := by decide +kernel
theorem dX1_playOut_65 : decode cX1_playOut 65 = .ok (.ior, 1) := by decide +kernel
theorem dX1_playOut_66 : decode cX1_playOut 66 = .ok (.goto 11, 3) := by decide +kernel
theorem dX1_playOut_69 : decode cX1_playOut 69 = .ok (.iload_n 1, 1) := by decide +kernel
theorem dX1_playOut_70 : decode cX1_playOut 70 = .ok (.iconst 1, 1) := by decide +kernel
theorem dX1_playOut_71 : decode cX1_playOut 71 = .ok (.iload 6, 2) := by decide +kernel
theorem dX1_playOut_73 : decode cX1_playOut 73 = .ok (.ishl, 1) := by decide +kernel
theorem dX1_playOut_74 : decode cX1_playOut 74 = .ok (.iconst (-1), 1) := by decide +kernel
theorem dX1_playOut_75 : decode cX1_playOut 75 = .ok (.ixor, 1) := by decide +kernel
theorem dX1_playOut_76 : decode cX1_playOut 76 = .ok (.iand, 1) := by decide +kernel
theorem dX1_playOut_77 : decode cX1_playOut 77 = .ok (.istore 7, 2) := by decide +kernel
theorem dX1_playOut_79 : decode cX1_playOut 79 = .ok (.iload 7, 2) := by decide +kernel
theorem dX1_playOut_81 : decode cX1_playOut 81 = .ok (.iload_n 1, 1) := by decide +kernel
theorem dX1_playOut_82 : decode cX1_playOut 82 = .ok (.if_icmp .eq 39, 3) := by decide +kernel
theorem dX1_playOut_85 : decode cX1_playOut 85 = .ok (.aload_n 0, 1) := by decide +kernel
theorem dX1_playOut_86 : decode cX1_playOut 86 = .ok (.iload 7, 2) := by decide +kernel
theorem dX1_playOut_88 : decode cX1_playOut 88 = .ok (.iload_n 2, 1) := by decide +kernel
theorem dX1_playOut_89 : decode cX1_playOut 89 = .ok (.iconst 1, 1) := by decide +kernel
theorem dX1_playOut_90 : decode cX1_playOut 90 = .ok (.iadd, 1) := by decide +kernel
theorem dX1_playOut_91 : decode cX1_playOut 91 = .ok (.iload_n 3, 1) := by decide +kernel
theorem dX1_playOut_92 : decode cX1_playOut 92 = .ok (.invokevirtual 210, 3) := by decide +kernel
theorem dX1_playOut_95 : decode cX1_playOut 95 = .ok (.istore 8, 2) := by decide +kernel
theorem dX1_playOut_97 : decode cX1_playOut 97 = .ok (.iload 4, 2) := by decide +kernel
theorem dX1_playOut_99 : decode cX1_playOut 99 = .ok (.ifCond .eq 13, 3) := by decide +kernel
theorem dX1_playOut_102 : decode cX1_playOut 102 = .ok (.iload 5, 2) := by decide +kernel
theorem dX1_playOut_104 : decode cX1_playOut 104 = .ok (.iload 8, 2) := by decide +kernel
theorem dX1_playOut_106 : decode cX1_playOut 106 = .ok (.invokestatic 243, 3) := by decide +kernel
theorem dX1_playOut_109 : decode cX1_playOut 109 = .ok (.goto 10, 3) := by decide +kernel
theorem dX1_playOut_112 : decode cX1_playOut 112 = .ok (.iload 5, 2) := by decide +kernel
theorem dX1_playOut_114 : decode cX1_playOut 114 = .ok (.iload 8, 2) := by decide +kernel
theorem dX1_playOut_116 : decode cX1_playOut 116 = .ok (.invokestatic 169, 3) := by decide +kernel
theorem dX1_playOut_119 : decode cX1_playOut 119 = .ok (.istore 5, 2) := by decide +kernel
theorem dX1_playOut_121 : decode cX1_playOut 121 = .ok (.iinc 6 1, 3) := by decide +kernel
theorem dX1_playOut_124 : decode cX1_playOut 124 = .ok (.goto (-81), 3) := by decide +kernel
theorem dX1_playOut_127 : decode cX1_playOut 127 = .ok (.iload 5, 2) := by decide +kernel
theorem dX1_playOut_129 : decode cX1_playOut 129 = .ok (.ireturn, 1) := by decide +kernel
theorem dX1_leftWithEnds_0 : decode cX1_leftWithEnds 0 = .ok (.aload_n 0, 1) := by decide +kernel
theorem dX1_leftWithEnds_1 : decode cX1_leftWithEnds 1 = .ok (.getfield 33, 3) := by decide +kernel
theorem dX1_leftWithEnds_4 : decode cX1_leftWithEnds 4 = .ok (.aload_n 0, 1) := by decide +kernel
theorem dX1_leftWithEnds_5 : decode cX1_leftWithEnds 5 = .ok (.getfield 29, 3) := by decide +kernel
theorem dX1_leftWithEnds_8 : decode cX1_leftWithEnds 8 = .ok (.invokevirtual 104, 3) := by decide +kernel
theorem dX1_leftWithEnds_11 : decode cX1_leftWithEnds 11 = .ok (.aload_n 0, 1) := by decide +kernel
theorem dX1_leftWithEnds_12 : decode cX1_leftWithEnds 12 = .ok (.getfield 33, 3) := by decide +kernel
theorem dX1_leftWithEnds_15 : decode cX1_leftWithEnds 15 = .ok (.iload_n 1, 1) := by decide +kernel
theorem dX1_leftWithEnds_16 : decode cX1_leftWithEnds 16 = .ok (.invokevirtual 249, 3) := by decide +kernel
theorem dX1_leftWithEnds_19 : decode cX1_leftWithEnds 19 = .ok (.aload_n 0, 1) := by decide +kernel
theorem dX1_leftWithEnds_20 : decode cX1_leftWithEnds 20 = .ok (.getfield 33, 3) := by decide +kernel
theorem dX1_leftWithEnds_23 : decode cX1_leftWithEnds 23 = .ok (.bipush 8, 2) := by decide +kernel
theorem dX1_leftWithEnds_25 : decode cX1_leftWithEnds 25 = .ok (.invokevirtual 159, 3) := by decide +kernel
theorem dX1_leftWithEnds_28 : decode cX1_leftWithEnds 28 = .ok (.aload_n 0, 1) := by decide +kernel
theorem dX1_leftWithEnds_29 : decode cX1_leftWithEnds 29 = .ok (.getfield 33, 3) := by decide +kernel
theorem dX1_leftWithEnds_32 : decode cX1_leftWithEnds 32 = .ok (.invokevirtual 137, 3) := by decide +kernel
theorem dX1_leftWithEnds_35 : decode cX1_leftWithEnds 35 = .ok (.ireturn, 1) := by decide +kernel
theorem dX1_tellChance_0 : decode cX1_tellChance 0 = .ok (.lconst 0, 1) := by decide +kernel
theorem dX1_tellChance_1 : decode cX1_tellChance 1 = .ok (.lstore 4, 2) := by decide +kernel
theorem dX1_tellChance_3 : decode cX1_tellChance 3 = .ok (.iconst 0, 1) := by decide +kernel
theorem dX1_tellChance_4 : decode cX1_tellChance 4 = .ok (.istore 6, 2) := by decide +kernel
theorem dX1_tellChance_6 : decode cX1_tellChance 6 = .ok (.iload 6, 2) := by decide +kernel
theorem dX1_tellChance_8 : decode cX1_tellChance 8 = .ok (.iconst 1, 1) := by decide +kernel
theorem dX1_tellChance_9 : decode cX1_tellChance 9 = .ok (.aload_n 0, 1) := by decide +kernel
theorem dX1_tellChance_10 : decode cX1_tellChance 10 = .ok (.getfield 29, 3) := by decide +kernel
theorem dX1_tellChance_13 : decode cX1_tellChance 13 = .ok (.getfield 108, 3) := by decide +kernel
theorem dX1_tellChance_16 : decode cX1_tellChance 16 = .ok (.ishl, 1) := by decide +kernel
theorem dX1_tellChance_17 : decode cX1_tellChance 17 = .ok (.if_icmp .ge 68, 3) := by decide +kernel
theorem dX1_tellChance_20 : decode cX1_tellChance 20 = .ok (.aload_n 0, 1) := by decide +kernel
theorem dX1_tellChance_21 : decode cX1_tellChance 21 = .ok (.iload 6, 2) := by decide +kernel
theorem dX1_tellChance_23 : decode cX1_tellChance 23 = .ok (.iload_n 3, 1) := by decide +kernel
theorem dX1_tellChance_24 : decode cX1_tellChance 24 = .ok (.invokevirtual 252, 3) := by decide +kernel
theorem dX1_tellChance_27 : decode cX1_tellChance 27 = .ok (.lstore 7, 2) := by decide +kernel
theorem dX1_tellChance_29 : decode cX1_tellChance 29 = .ok (.lload 7, 2) := by decide +kernel
theorem dX1_tellChance_31 : decode cX1_tellChance 31 = .ok (.lconst 0, 1) := by decide +kernel
theorem dX1_tellChance_32 : decode cX1_tellChance 32 = .ok (.lcmp, 1) := by decide +kernel
theorem dX1_tellChance_33 : decode cX1_tellChance 33 = .ok (.ifCond .le 46, 3) := by decide +kernel
theorem dX1_tellChance_36 : decode cX1_tellChance 36 = .ok (.aload_n 0, 1) := by decide +kernel
theorem dX1_tellChance_37 : decode cX1_tellChance 37 = .ok (.iload 6, 2) := by decide +kernel
theorem dX1_tellChance_39 : decode cX1_tellChance 39 = .ok (.iload_n 2, 1) := by decide +kernel
theorem dX1_tellChance_40 : decode cX1_tellChance 40 = .ok (.invokevirtual 256, 3) := by decide +kernel
theorem dX1_tellChance_43 : decode cX1_tellChance 43 = .ok (.istore 9, 2) := by decide +kernel
theorem dX1_tellChance_45 : decode cX1_tellChance 45 = .ok (.iload 9, 2) := by decide +kernel
theorem dX1_tellChance_47 : decode cX1_tellChance 47 = .ok (.iload_n 1, 1) := by decide +kernel
theorem dX1_tellChance_48 : decode cX1_tellChance 48 = .ok (.if_icmp .lt 7, 3) := by decide +kernel
theorem dX1_tellChance_51 : decode cX1_tellChance 51 = .ok (.iconst 1, 1) := by decide +kernel
theorem dX1_tellChance_52 : decode cX1_tellChance 52 = .ok (.goto 4, 3) := by decide +kernel
theorem dX1_tellChance_55 : decode cX1_tellChance 55 = .ok (.iconst 0, 1) := by decide +kernel
theorem dX1_tellChance_56 : decode cX1_tellChance 56 = .ok (.istore 10, 2) := by decide +kernel
theorem dX1_tellChance_58 : decode cX1_tellChance 58 = .ok (.lload 4, 2) := by decide +kernel
theorem dX1_tellChance_60 : decode cX1_tellChance 60 = .ok (.lload 7, 2) := by decide +kernel
theorem dX1_tellChance_62 : decode cX1_tellChance 62 = .ok (.iload_n 1, 1) := by decide +kernel
theorem dX1_tellChance_63 : decode cX1_tellChance 63 = .ok (.iconst (-1), 1) := by decide +kernel
theorem dX1_tellChance_64 : decode cX1_tellChance 64 = .ok (.if_icmp .ne 8, 3) := by decide +kernel
theorem dX1_tellChance_67 : decode cX1_tellChance 67 = .ok (.iload 9, 2) := by decide +kernel
theorem dX1_tellChance_69 : decode cX1_tellChance 69 = .ok (.goto 5, 3) := by decide +kernel
theorem dX1_tellChance_72 : decode cX1_tellChance 72 = .ok (.iload 10, 2) := by decide +kernel
theorem dX1_tellChance_74 : decode cX1_tellChance 74 = .ok (.i2l, 1) := by decide +kernel
theorem dX1_tellChance_75 : decode cX1_tellChance 75 = .ok (.lmul, 1) := by decide +kernel
theorem dX1_tellChance_76 : decode cX1_tellChance 76 = .ok (.ladd, 1) := by decide +kernel
theorem dX1_tellChance_77 : decode cX1_tellChance 77 = .ok (.lstore 4, 2) := by decide +kernel
theorem dX1_tellChance_79 : decode cX1_tellChance 79 = .ok (.iinc 6 1, 3) := by decide +kernel
theorem dX1_tellChance_82 : decode cX1_tellChance 82 = .ok (.goto (-76), 3) := by decide +kernel
theorem dX1_tellChance_85 : decode cX1_tellChance 85 = .ok (.lconst 1, 1) := by decide +kernel
theorem dX1_tellChance_86 : decode cX1_tellChance 86 = .ok (.lstore 6, 2) := by decide +kernel
theorem dX1_tellChance_88 : decode cX1_tellChance 88 = .ok (.iconst 0, 1) := by decide +kernel
theorem dX1_tellChance_89 : decode cX1_tellChance 89 = .ok (.istore 8, 2) := by decide +kernel
theorem dX1_tellChance_91 : decode cX1_tellChance 91 = .ok (.iload 8, 2) := by decide +kernel
theorem dX1_tellChance_93 : decode cX1_tellChance 93 = .ok (.aload_n 0, 1) := by decide +kernel
theorem dX1_tellChance_94 : decode cX1_tellChance 94 = .ok (.getfield 29, 3) := by decide +kernel
theorem dX1_tellChance_97 : decode cX1_tellChance 97 = .ok (.getfield 108, 3) := by decide +kernel
theorem dX1_tellChance_100 : decode cX1_tellChance 100 = .ok (.if_icmp .ge 17, 3) := by decide +kernel
theorem dX1_tellChance_103 : decode cX1_tellChance 103 = .ok (.lload 6, 2) := by decide +kernel
theorem dX1_tellChance_105 : decode cX1_tellChance 105 = .ok (.ldc2_w 259, 3) := by decide +kernel
theorem dX1_tellChance_108 : decode cX1_tellChance 108 = .ok (.lmul, 1) := by decide +kernel
theorem dX1_tellChance_109 : decode cX1_tellChance 109 = .ok (.lstore 6, 2) := by decide +kernel
theorem dX1_tellChance_111 : decode cX1_tellChance 111 = .ok (.iinc 8 1, 3) := by decide +kernel
theorem dX1_tellChance_114 : decode cX1_tellChance 114 = .ok (.goto (-23), 3) := by decide +kernel
theorem dX1_tellChance_117 : decode cX1_tellChance 117 = .ok (.aload_n 0, 1) := by decide +kernel
theorem dX1_tellChance_118 : decode cX1_tellChance 118 = .ok (.lload 4, 2) := by decide +kernel
theorem dX1_tellChance_120 : decode cX1_tellChance 120 = .ok (.lload 6, 2) := by decide +kernel
theorem dX1_tellChance_122 : decode cX1_tellChance 122 = .ok (.invokevirtual 261, 3) := by decide +kernel
theorem dX1_tellChance_125 : decode cX1_tellChance 125 = .ok (.return_, 1) := by decide +kernel
theorem dX1_weightOf_0 : decode cX1_weightOf 0 = .ok (.lconst 1, 1) := by decide +kernel
theorem dX1_weightOf_1 : decode cX1_weightOf 1 = .ok (.lstore_n 3, 1) := by decide +kernel
theorem dX1_weightOf_2 : decode cX1_weightOf 2 = .ok (.iconst 0, 1) := by decide +kernel
theorem dX1_weightOf_3 : decode cX1_weightOf 3 = .ok (.istore 5, 2) := by decide +kernel
theorem dX1_weightOf_5 : decode cX1_weightOf 5 = .ok (.iload 5, 2) := by decide +kernel
theorem dX1_weightOf_7 : decode cX1_weightOf 7 = .ok (.aload_n 0, 1) := by decide +kernel
theorem dX1_weightOf_8 : decode cX1_weightOf 8 = .ok (.getfield 29, 3) := by decide +kernel
theorem dX1_weightOf_11 : decode cX1_weightOf 11 = .ok (.getfield 108, 3) := by decide +kernel
theorem dX1_weightOf_14 : decode cX1_weightOf 14 = .ok (.if_icmp .ge 32, 3) := by decide +kernel
theorem dX1_weightOf_17 : decode cX1_weightOf 17 = .ok (.lload_n 3, 1) := by decide +kernel
theorem dX1_weightOf_18 : decode cX1_weightOf 18 = .ok (.iload_n 1, 1) := by decide +kernel
theorem dX1_weightOf_19 : decode cX1_weightOf 19 = .ok (.iload 5, 2) := by decide +kernel
theorem dX1_weightOf_21 : decode cX1_weightOf 21 = .ok (.ishr, 1) := by decide +kernel
theorem dX1_weightOf_22 : decode cX1_weightOf 22 = .ok (.iconst 1, 1) := by decide +kernel
theorem dX1_weightOf_23 : decode cX1_weightOf 23 = .ok (.iand, 1) := by decide +kernel
theorem dX1_weightOf_24 : decode cX1_weightOf 24 = .ok (.iconst 1, 1) := by decide +kernel
theorem dX1_weightOf_25 : decode cX1_weightOf 25 = .ok (.if_icmp .ne 8, 3) := by decide +kernel
theorem dX1_weightOf_28 : decode cX1_weightOf 28 = .ok (.iload_n 2, 1) := by decide +kernel
theorem dX1_weightOf_29 : decode cX1_weightOf 29 = .ok (.i2l, 1) := by decide +kernel
theorem dX1_weightOf_30 : decode cX1_weightOf 30 = .ok (.goto 8, 3) := by decide +kernel
theorem dX1_weightOf_33 : decode cX1_weightOf 33 = .ok (.bipush 12, 2) := by decide +kernel
theorem dX1_weightOf_35 : decode cX1_weightOf 35 = .ok (.iload_n 2, 1) := by decide +kernel
theorem dX1_weightOf_36 : decode cX1_weightOf 36 = .ok (.isub, 1) := by decide +kernel
theorem dX1_weightOf_37 : decode cX1_weightOf 37 = .ok (.i2l, 1) := by decide +kernel
theorem dX1_weightOf_38 : decode cX1_weightOf 38 = .ok (.lmul, 1) := by decide +kernel
theorem dX1_weightOf_39 : decode cX1_weightOf 39 = .ok (.lstore_n 3, 1) := by decide +kernel
theorem dX1_weightOf_40 : decode cX1_weightOf 40 = .ok (.iinc 5 1, 3) := by decide +kernel
theorem dX1_weightOf_43 : decode cX1_weightOf 43 = .ok (.goto (-38), 3) := by decide +kernel
theorem dX1_weightOf_46 : decode cX1_weightOf 46 = .ok (.lload_n 3, 1) := by decide +kernel
theorem dX1_weightOf_47 : decode cX1_weightOf 47 = .ok (.lreturn, 1) := by decide +kernel
theorem dX1_leftWithout_0 : decode cX1_leftWithout 0 = .ok (.aload_n 0, 1) := by decide +kernel
theorem dX1_leftWithout_1 : decode cX1_leftWithout 1 = .ok (.getfield 33, 3) := by decide +kernel
theorem dX1_leftWithout_4 : decode cX1_leftWithout 4 = .ok (.aload_n 0, 1) := by decide +kernel
theorem dX1_leftWithout_5 : decode cX1_leftWithout 5 = .ok (.getfield 29, 3) := by decide +kernel
theorem dX1_leftWithout_8 : decode cX1_leftWithout 8 = .ok (.invokevirtual 104, 3) := by decide +kernel
theorem dX1_leftWithout_11 : decode cX1_leftWithout 11 = .ok (.aload_n 0, 1) := by decide +kernel
theorem dX1_leftWithout_12 : decode cX1_leftWithout 12 = .ok (.getfield 33, 3) := by decide +kernel
theorem dX1_leftWithout_15 : decode cX1_leftWithout 15 = .ok (.iload_n 1, 1) := by decide +kernel
theorem dX1_leftWithout_16 : decode cX1_leftWithout 16 = .ok (.invokevirtual 265, 3) := by decide +kernel
theorem dX1_leftWithout_19 : decode cX1_leftWithout 19 = .ok (.aload_n 0, 1) := by decide +kernel
theorem dX1_leftWithout_20 : decode cX1_leftWithout 20 = .ok (.getfield 33, 3) := by decide +kernel
theorem dX1_leftWithout_23 : decode cX1_leftWithout 23 = .ok (.iload_n 2, 1) := by decide +kernel
theorem dX1_leftWithout_24 : decode cX1_leftWithout 24 = .ok (.invokevirtual 159, 3) := by decide +kernel
theorem dX1_leftWithout_27 : decode cX1_leftWithout 27 = .ok (.aload_n 0, 1) := by decide +kernel
theorem dX1_leftWithout_28 : decode cX1_leftWithout 28 = .ok (.getfield 33, 3) := by decide +kernel
theorem dX1_leftWithout_31 : decode cX1_leftWithout 31 = .ok (.invokevirtual 137, 3) := by decide +kernel
theorem dX1_leftWithout_34 : decode cX1_leftWithout 34 = .ok (.ireturn, 1) := by decide +kernel
theorem dX1_tellLowest_0 : decode cX1_tellLowest 0 = .ok (.lload_n 3, 1) := by decide +kernel
theorem dX1_tellLowest_1 : decode cX1_tellLowest 1 = .ok (.lstore 5, 2) := by decide +kernel
theorem dX1_tellLowest_3 : decode cX1_tellLowest 3 = .ok (.lload_n 1, 1) := by decide +kernel
theorem dX1_tellLowest_4 : decode cX1_tellLowest 4 = .ok (.lstore 7, 2) := by decide +kernel
theorem dX1_tellLowest_6 : decode cX1_tellLowest 6 = .ok (.iconst 0, 1) := by decide +kernel
theorem dX1_tellLowest_7 : decode cX1_tellLowest 7 = .ok (.istore 9, 2) := by decide +kernel
theorem dX1_tellLowest_9 : decode cX1_tellLowest 9 = .ok (.iload 9, 2) := by decide +kernel
theorem dX1_tellLowest_11 : decode cX1_tellLowest 11 = .ok (.sipush 200, 3) := by decide +kernel
theorem dX1_tellLowest_14 : decode cX1_tellLowest 14 = .ok (.if_icmp .ge 31, 3) := by decide +kernel
theorem dX1_tellLowest_17 : decode cX1_tellLowest 17 = .ok (.lload 7, 2) := by decide +kernel
theorem dX1_tellLowest_19 : decode cX1_tellLowest 19 = .ok (.lconst 0, 1) := by decide +kernel
theorem dX1_tellLowest_20 : decode cX1_tellLowest 20 = .ok (.lcmp, 1) := by decide +kernel
theorem dX1_tellLowest_21 : decode cX1_tellLowest 21 = .ok (.ifCond .eq 24, 3) := by decide +kernel
theorem dX1_tellLowest_24 : decode cX1_tellLowest 24 = .ok (.lload 5, 2) := by decide +kernel
theorem dX1_tellLowest_26 : decode cX1_tellLowest 26 = .ok (.lload 7, 2) := by decide +kernel
theorem dX1_tellLowest_28 : decode cX1_tellLowest 28 = .ok (.lrem, 1) := by decide +kernel
theorem dX1_tellLowest_29 : decode cX1_tellLowest 29 = .ok (.lstore 10, 2) := by decide +kernel
theorem dX1_tellLowest_31 : decode cX1_tellLowest 31 = .ok (.lload 7, 2) := by decide +kernel
theorem dX1_tellLowest_33 : decode cX1_tellLowest 33 = .ok (.lstore 5, 2) := by decide +kernel
theorem dX1_tellLowest_35 : decode cX1_tellLowest 35 = .ok (.lload 10, 2) := by decide +kernel
theorem dX1_tellLowest_37 : decode cX1_tellLowest 37 = .ok (.lstore 7, 2) := by decide +kernel
theorem dX1_tellLowest_39 : decode cX1_tellLowest 39 = .ok (.iinc 9 1, 3) := by decide +kernel
theorem dX1_tellLowest_42 : decode cX1_tellLowest 42 = .ok (.goto (-33), 3) := by decide +kernel
theorem dX1_tellLowest_45 : decode cX1_tellLowest 45 = .ok (.aload_n 0, 1) := by decide +kernel
theorem dX1_tellLowest_46 : decode cX1_tellLowest 46 = .ok (.lload 5, 2) := by decide +kernel
theorem dX1_tellLowest_48 : decode cX1_tellLowest 48 = .ok (.lconst 0, 1) := by decide +kernel
theorem dX1_tellLowest_49 : decode cX1_tellLowest 49 = .ok (.lcmp, 1) := by decide +kernel
theorem dX1_tellLowest_50 : decode cX1_tellLowest 50 = .ok (.ifCond .le 10, 3) := by decide +kernel
theorem dX1_tellLowest_53 : decode cX1_tellLowest 53 = .ok (.lload_n 1, 1) := by decide +kernel
theorem dX1_tellLowest_54 : decode cX1_tellLowest 54 = .ok (.lload 5, 2) := by decide +kernel
theorem dX1_tellLowest_56 : decode cX1_tellLowest 56 = .ok (.ldiv, 1) := by decide +kernel
theorem dX1_tellLowest_57 : decode cX1_tellLowest 57 = .ok (.goto 4, 3) := by decide +kernel
theorem dX1_tellLowest_60 : decode cX1_tellLowest 60 = .ok (.lload_n 1, 1) := by decide +kernel
theorem dX1_tellLowest_61 : decode cX1_tellLowest 61 = .ok (.putfield 61, 3) := by decide +kernel
theorem dX1_tellLowest_64 : decode cX1_tellLowest 64 = .ok (.aload_n 0, 1) := by decide +kernel
theorem dX1_tellLowest_65 : decode cX1_tellLowest 65 = .ok (.lload 5, 2) := by decide +kernel
theorem dX1_tellLowest_67 : decode cX1_tellLowest 67 = .ok (.lconst 0, 1) := by decide +kernel
theorem dX1_tellLowest_68 : decode cX1_tellLowest 68 = .ok (.lcmp, 1) := by decide +kernel
theorem dX1_tellLowest_69 : decode cX1_tellLowest 69 = .ok (.ifCond .le 10, 3) := by decide +kernel
theorem dX1_tellLowest_72 : decode cX1_tellLowest 72 = .ok (.lload_n 3, 1) := by decide +kernel
theorem dX1_tellLowest_73 : decode cX1_tellLowest 73 = .ok (.lload 5, 2) := by decide +kernel
theorem dX1_tellLowest_75 : decode cX1_tellLowest 75 = .ok (.ldiv, 1) := by decide +kernel
theorem dX1_tellLowest_76 : decode cX1_tellLowest 76 = .ok (.goto 4, 3) := by decide +kernel
theorem dX1_tellLowest_79 : decode cX1_tellLowest 79 = .ok (.lload_n 3, 1) := by decide +kernel
theorem dX1_tellLowest_80 : decode cX1_tellLowest 80 = .ok (.putfield 65, 3) := by decide +kernel
theorem dX1_tellLowest_83 : decode cX1_tellLowest 83 = .ok (.return_, 1) := by decide +kernel
theorem dX1_countOf_0 : decode cX1_countOf 0 = .ok (.iload_n 1, 1) := by decide +kernel
theorem dX1_countOf_1 : decode cX1_countOf 1 = .ok (.tableswitch 133 0 9 #[55, 63, 71, 76, 84, 92, 100, 108, 116, 124], 55) := by decide +kernel
theorem dX1_countOf_56 : decode cX1_countOf 56 = .ok (.aload_n 0, 1) := by decide +kernel
theorem dX1_countOf_57 : decode cX1_countOf 57 = .ok (.getfield 29, 3) := by decide +kernel
theorem dX1_countOf_60 : decode cX1_countOf 60 = .ok (.getfield 108, 3) := by decide +kernel
theorem dX1_countOf_63 : decode cX1_countOf 63 = .ok (.ireturn, 1) := by decide +kernel
theorem dX1_countOf_64 : decode cX1_countOf 64 = .ok (.aload_n 0, 1) := by decide +kernel
theorem dX1_countOf_65 : decode cX1_countOf 65 = .ok (.getfield 29, 3) := by decide +kernel
theorem dX1_countOf_68 : decode cX1_countOf 68 = .ok (.getfield 127, 3) := by decide +kernel
theorem dX1_countOf_71 : decode cX1_countOf 71 = .ok (.ireturn, 1) := by decide +kernel
theorem dX1_countOf_72 : decode cX1_countOf 72 = .ok (.aload_n 0, 1) := by decide +kernel
theorem dX1_countOf_73 : decode cX1_countOf 73 = .ok (.getfield 39, 3) := by decide +kernel
theorem dX1_countOf_76 : decode cX1_countOf 76 = .ok (.ireturn, 1) := by decide +kernel
theorem dX1_countOf_77 : decode cX1_countOf 77 = .ok (.aload_n 0, 1) := by decide +kernel
theorem dX1_countOf_78 : decode cX1_countOf 78 = .ok (.getfield 29, 3) := by decide +kernel
theorem dX1_countOf_81 : decode cX1_countOf 81 = .ok (.invokevirtual 137, 3) := by decide +kernel
theorem dX1_countOf_84 : decode cX1_countOf 84 = .ok (.ireturn, 1) := by decide +kernel
theorem dX1_countOf_85 : decode cX1_countOf 85 = .ok (.aload_n 0, 1) := by decide +kernel
theorem dX1_countOf_86 : decode cX1_countOf 86 = .ok (.getfield 29, 3) := by decide +kernel
theorem dX1_countOf_89 : decode cX1_countOf 89 = .ok (.invokevirtual 268, 3) := by decide +kernel
theorem dX1_countOf_92 : decode cX1_countOf 92 = .ok (.ireturn, 1) := by decide +kernel
theorem dX1_countOf_93 : decode cX1_countOf 93 = .ok (.aload_n 0, 1) := by decide +kernel
theorem dX1_countOf_94 : decode cX1_countOf 94 = .ok (.getfield 29, 3) := by decide +kernel
theorem dX1_countOf_97 : decode cX1_countOf 97 = .ok (.invokevirtual 178, 3) := by decide +kernel
theorem dX1_countOf_100 : decode cX1_countOf 100 = .ok (.ireturn, 1) := by decide +kernel
theorem dX1_countOf_101 : decode cX1_countOf 101 = .ok (.aload_n 0, 1) := by decide +kernel
theorem dX1_countOf_102 : decode cX1_countOf 102 = .ok (.getfield 14, 3) := by decide +kernel
theorem dX1_countOf_105 : decode cX1_countOf 105 = .ok (.invokestatic 271, 3) := by decide +kernel
theorem dX1_countOf_108 : decode cX1_countOf 108 = .ok (.ireturn, 1) := by decide +kernel
theorem dX1_countOf_109 : decode cX1_countOf 109 = .ok (.aload_n 0, 1) := by decide +kernel
theorem dX1_countOf_110 : decode cX1_countOf 110 = .ok (.getfield 23, 3) := by decide +kernel
theorem dX1_countOf_113 : decode cX1_countOf 113 = .ok (.invokestatic 271, 3) := by decide +kernel
theorem dX1_countOf_116 : decode cX1_countOf 116 = .ok (.ireturn, 1) := by decide +kernel
theorem dX1_countOf_117 : decode cX1_countOf 117 = .ok (.aload_n 0, 1) := by decide +kernel
theorem dX1_countOf_118 : decode cX1_countOf 118 = .ok (.getfield 46, 3) := by decide +kernel
theorem dX1_countOf_121 : decode cX1_countOf 121 = .ok (.invokestatic 271, 3) := by decide +kernel
theorem dX1_countOf_124 : decode cX1_countOf 124 = .ok (.ireturn, 1) := by decide +kernel
theorem dX1_countOf_125 : decode cX1_countOf 125 = .ok (.aload_n 0, 1) := by decide +kernel
theorem dX1_countOf_126 : decode cX1_countOf 126 = .ok (.getfield 29, 3) := by decide +kernel
theorem dX1_countOf_129 : decode cX1_countOf 129 = .ok (.iconst 1, 1) := by decide +kernel
theorem dX1_countOf_130 : decode cX1_countOf 130 = .ok (.invokevirtual 275, 3) := by decide +kernel
theorem dX1_countOf_133 : decode cX1_countOf 133 = .ok (.ireturn, 1) := by decide +kernel
theorem dX1_countOf_134 : decode cX1_countOf 134 = .ok (.aload_n 0, 1) := by decide +kernel
theorem dX1_countOf_135 : decode cX1_countOf 135 = .ok (.getfield 29, 3) := by decide +kernel
theorem dX1_countOf_138 : decode cX1_countOf 138 = .ok (.iconst 2, 1) := by decide +kernel
theorem dX1_countOf_139 : decode cX1_countOf 139 = .ok (.invokevirtual 275, 3) := by decide +kernel
theorem dX1_countOf_142 : decode cX1_countOf 142 = .ok (.ireturn, 1) := by decide +kernel
theorem dX1_present_0 : decode cX1_present 0 = .ok (.iconst 0, 1) := by decide +kernel
theorem dX1_present_1 : decode cX1_present 1 = .ok (.istore_n 1, 1) := by decide +kernel
theorem dX1_present_2 : decode cX1_present 2 = .ok (.aload_n 0, 1) := by decide +kernel
theorem dX1_present_3 : decode cX1_present 3 = .ok (.astore_n 2, 1) := by decide +kernel
theorem dX1_present_4 : decode cX1_present 4 = .ok (.aload_n 2, 1) := by decide +kernel
theorem dX1_present_5 : decode cX1_present 5 = .ok (.arraylength, 1) := by decide +kernel
theorem dX1_present_6 : decode cX1_present 6 = .ok (.istore_n 3, 1) := by decide +kernel
theorem dX1_present_7 : decode cX1_present 7 = .ok (.iconst 0, 1) := by decide +kernel
theorem dX1_present_8 : decode cX1_present 8 = .ok (.istore 4, 2) := by decide +kernel
theorem dX1_present_10 : decode cX1_present 10 = .ok (.iload 4, 2) := by decide +kernel
theorem dX1_present_12 : decode cX1_present 12 = .ok (.iload_n 3, 1) := by decide +kernel
theorem dX1_present_13 : decode cX1_present 13 = .ok (.if_icmp .ge 24, 3) := by decide +kernel
theorem dX1_present_16 : decode cX1_present 16 = .ok (.aload_n 2, 1) := by decide +kernel
theorem dX1_present_17 : decode cX1_present 17 = .ok (.iload 4, 2) := by decide +kernel
theorem dX1_present_19 : decode cX1_present 19 = .ok (.iaload, 1) := by decide +kernel
theorem dX1_present_20 : decode cX1_present 20 = .ok (.istore 5, 2) := by decide +kernel
theorem dX1_present_22 : decode cX1_present 22 = .ok (.iload 5, 2) := by decide +kernel
theorem dX1_present_24 : decode cX1_present 24 = .ok (.iconst (-1), 1) := by decide +kernel
theorem dX1_present_25 : decode cX1_present 25 = .ok (.if_icmp .eq 6, 3) := by decide +kernel
theorem dX1_present_28 : decode cX1_present 28 = .ok (.iinc 1 1, 3) := by decide +kernel
theorem dX1_present_31 : decode cX1_present 31 = .ok (.iinc 4 1, 3) := by decide +kernel
theorem dX1_present_34 : decode cX1_present 34 = .ok (.goto (-24), 3) := by decide +kernel
theorem dX1_present_37 : decode cX1_present 37 = .ok (.iload_n 1, 1) := by decide +kernel
theorem dX1_present_38 : decode cX1_present 38 = .ok (.ireturn, 1) := by decide +kernel
end
section
theorem dX2_init_0 : decode cX2_init 0 = .ok (.aload_n 0, 1) := by decide +kernel
theorem dX2_init_1 : decode cX2_init 1 = .ok (.invokespecial 1, 3) := by decide +kernel
theorem dX2_init_4 : decode cX2_init 4 = .ok (.aload_n 0, 1) := by decide +kernel
theorem dX2_init_5 : decode cX2_init 5 = .ok (.bipush 6, 2) := by decide +kernel
theorem dX2_init_7 : decode cX2_init 7 = .ok (.newarray .int, 2) := by decide +kernel
theorem dX2_init_9 : decode cX2_init 9 = .ok (.putfield 7, 3) := by decide +kernel
theorem dX2_init_12 : decode cX2_init 12 = .ok (.aload_n 0, 1) := by decide +kernel
theorem dX2_init_13 : decode cX2_init 13 = .ok (.sipush 240, 3) := by decide +kernel
theorem dX2_init_16 : decode cX2_init 16 = .ok (.newarray .int, 2) := by decide +kernel
theorem dX2_init_18 : decode cX2_init 18 = .ok (.putfield 13, 3) := by decide +kernel
theorem dX2_init_21 : decode cX2_init 21 = .ok (.aload_n 0, 1) := by decide +kernel
theorem dX2_init_22 : decode cX2_init 22 = .ok (.iconst 4, 1) := by decide +kernel
theorem dX2_init_23 : decode cX2_init 23 = .ok (.newarray .int, 2) := by decide +kernel
theorem dX2_init_25 : decode cX2_init 25 = .ok (.putfield 16, 3) := by decide +kernel
theorem dX2_init_28 : decode cX2_init 28 = .ok (.aload_n 0, 1) := by decide +kernel
theorem dX2_init_29 : decode cX2_init 29 = .ok (.sipush 240, 3) := by decide +kernel
theorem dX2_init_32 : decode cX2_init 32 = .ok (.newarray .int, 2) := by decide +kernel
theorem dX2_init_34 : decode cX2_init 34 = .ok (.putfield 19, 3) := by decide +kernel
theorem dX2_init_37 : decode cX2_init 37 = .ok (.aload_n 0, 1) := by decide +kernel
theorem dX2_init_38 : decode cX2_init 38 = .ok (.bipush 7, 2) := by decide +kernel
theorem dX2_init_40 : decode cX2_init 40 = .ok (.newarray .int, 2) := by decide +kernel
theorem dX2_init_42 : decode cX2_init 42 = .ok (.putfield 22, 3) := by decide +kernel
theorem dX2_init_45 : decode cX2_init 45 = .ok (.aload_n 0, 1) := by decide +kernel
theorem dX2_init_46 : decode cX2_init 46 = .ok (.bipush 7, 2) := by decide +kernel
theorem dX2_init_48 : decode cX2_init 48 = .ok (.newarray .int, 2) := by decide +kernel
theorem dX2_init_50 : decode cX2_init 50 = .ok (.putfield 25, 3) := by decide +kernel
theorem dX2_init_53 : decode cX2_init 53 = .ok (.aload_n 0, 1) := by decide +kernel
theorem dX2_init_54 : decode cX2_init 54 = .ok (.bipush 7, 2) := by decide +kernel
theorem dX2_init_56 : decode cX2_init 56 = .ok (.newarray .int, 2) := by decide +kernel
theorem dX2_init_58 : decode cX2_init 58 = .ok (.putfield 28, 3) := by decide +kernel
theorem dX2_init_61 : decode cX2_init 61 = .ok (.aload_n 0, 1) := by decide +kernel
theorem dX2_init_62 : decode cX2_init 62 = .ok (.bipush 15, 2) := by decide +kernel
theorem dX2_init_64 : decode cX2_init 64 = .ok (.newarray .int, 2) := by decide +kernel
theorem dX2_init_66 : decode cX2_init 66 = .ok (.putfield 31, 3) := by decide +kernel
theorem dX2_init_69 : decode cX2_init 69 = .ok (.aload_n 0, 1) := by decide +kernel
theorem dX2_init_70 : decode cX2_init 70 = .ok (.bipush 15, 2) := by decide +kernel
theorem dX2_init_72 : decode cX2_init 72 = .ok (.newarray .int, 2) := by decide +kernel
theorem dX2_init_74 : decode cX2_init 74 = .ok (.putfield 34, 3) := by decide +kernel
theorem dX2_init_77 : decode cX2_init 77 = .ok (.aload_n 0, 1) := by decide +kernel
theorem dX2_init_78 : decode cX2_init 78 = .ok (.sipush 600, 3) := by decide +kernel
theorem dX2_init_81 : decode cX2_init 81 = .ok (.newarray .int, 2) := by decide +kernel
theorem dX2_init_83 : decode cX2_init 83 = .ok (.putfield 37, 3) := by decide +kernel
theorem dX2_init_86 : decode cX2_init 86 = .ok (.aload_n 0, 1) := by decide +kernel
theorem dX2_init_87 : decode cX2_init 87 = .ok (.sipush 1848, 3) := by decide +kernel
theorem dX2_init_90 : decode cX2_init 90 = .ok (.newarray .int, 2) := by decide +kernel
theorem dX2_init_92 : decode cX2_init 92 = .ok (.putfield 40, 3) := by decide +kernel
theorem dX2_init_95 : decode cX2_init 95 = .ok (.aload_n 0, 1) := by decide +kernel
theorem dX2_init_96 : decode cX2_init 96 = .ok (.iconst 3, 1) := by decide +kernel
theorem dX2_init_97 : decode cX2_init 97 = .ok (.newarray .boolean, 2) := by decide +kernel
theorem dX2_init_99 : decode cX2_init 99 = .ok (.putfield 43, 3) := by decide +kernel
theorem dX2_init_102 : decode cX2_init 102 = .ok (.aload_n 0, 1) := by decide +kernel
theorem dX2_init_103 : decode cX2_init 103 = .ok (.lconst 1, 1) := by decide +kernel
theorem dX2_init_104 : decode cX2_init 104 = .ok (.putfield 47, 3) := by decide +kernel
theorem dX2_init_107 : decode cX2_init 107 = .ok (.aload_n 0, 1) := by decide +kernel
theorem dX2_init_108 : decode cX2_init 108 = .ok (.bipush 6, 2) := by decide +kernel
theorem dX2_init_110 : decode cX2_init 110 = .ok (.newarray .int, 2) := by decide +kernel
theorem dX2_init_112 : decode cX2_init 112 = .ok (.putfield 51, 3) := by decide +kernel
theorem dX2_init_115 : decode cX2_init 115 = .ok (.aload_n 0, 1) := by decide +kernel
theorem dX2_init_116 : decode cX2_init 116 = .ok (.bipush 7, 2) := by decide +kernel
theorem dX2_init_118 : decode cX2_init 118 = .ok (.newarray .int, 2) := by decide +kernel
theorem dX2_init_120 : decode cX2_init 120 = .ok (.putfield 54, 3) := by decide +kernel
theorem dX2_init_123 : decode cX2_init 123 = .ok (.aload_n 0, 1) := by decide +kernel
theorem dX2_init_124 : decode cX2_init 124 = .ok (.bipush 7, 2) := by decide +kernel
theorem dX2_init_126 : decode cX2_init 126 = .ok (.newarray .int, 2) := by decide +kernel
theorem dX2_init_128 : decode cX2_init 128 = .ok (.putfield 57, 3) := by decide +kernel
theorem dX2_init_131 : decode cX2_init 131 = .ok (.aload_n 0, 1) := by decide +kernel
theorem dX2_init_132 : decode cX2_init 132 = .ok (.bipush 7, 2) := by decide +kernel
theorem dX2_init_134 : decode cX2_init 134 = .ok (.newarray .int, 2) := by decide +kernel
theorem dX2_init_136 : decode cX2_init 136 = .ok (.putfield 60, 3) := by decide +kernel
theorem dX2_init_139 : decode cX2_init 139 = .ok (.aload_n 0, 1) := by decide +kernel
theorem dX2_init_140 : decode cX2_init 140 = .ok (.bipush 7, 2) := by decide +kernel
theorem dX2_init_142 : decode cX2_init 142 = .ok (.newarray .int, 2) := by decide +kernel
theorem dX2_init_144 : decode cX2_init 144 = .ok (.putfield 63, 3) := by decide +kernel
theorem dX2_init_147 : decode cX2_init 147 = .ok (.aload_n 0, 1) := by decide +kernel
theorem dX2_init_148 : decode cX2_init 148 = .ok (.bipush 6, 2) := by decide +kernel
theorem dX2_init_150 : decode cX2_init 150 = .ok (.newarray .int, 2) := by decide +kernel
theorem dX2_init_152 : decode cX2_init 152 = .ok (.putfield 66, 3) := by decide +kernel
theorem dX2_init_155 : decode cX2_init 155 = .ok (.aload_n 0, 1) := by decide +kernel
theorem dX2_init_156 : decode cX2_init 156 = .ok (.sipush 512, 3) := by decide +kernel
theorem dX2_init_159 : decode cX2_init 159 = .ok (.newarray .int, 2) := by decide +kernel
theorem dX2_init_161 : decode cX2_init 161 = .ok (.putfield 69, 3) := by decide +kernel
theorem dX2_init_164 : decode cX2_init 164 = .ok (.iconst 0, 1) := by decide +kernel
theorem dX2_init_165 : decode cX2_init 165 = .ok (.istore_n 1, 1) := by decide +kernel
theorem dX2_init_166 : decode cX2_init 166 = .ok (.iload_n 1, 1) := by decide +kernel
theorem dX2_init_167 : decode cX2_init 167 = .ok (.bipush 6, 2) := by decide +kernel
theorem dX2_init_169 : decode cX2_init 169 = .ok (.if_icmp .ge 16, 3) := by decide +kernel
theorem dX2_init_172 : decode cX2_init 172 = .ok (.aload_n 0, 1) := by decide +kernel
theorem dX2_init_173 : decode cX2_init 173 = .ok (.getfield 7, 3) := by decide +kernel
theorem dX2_init_176 : decode cX2_init 176 = .ok (.iload_n 1, 1) := by decide +kernel
theorem dX2_init_177 : decode cX2_init 177 = .ok (.iconst (-1), 1) := by decide +kernel
theorem dX2_init_178 : decode cX2_init 178 = .ok (.iastore, 1) := by decide +kernel
theorem dX2_init_179 : decode cX2_init 179 = .ok (.iinc 1 1, 3) := by decide +kernel
theorem dX2_init_182 : decode cX2_init 182 = .ok (.goto (-16), 3) := by decide +kernel
theorem dX2_init_185 : decode cX2_init 185 = .ok (.iconst 0, 1) := by decide +kernel
theorem dX2_init_186 : decode cX2_init 186 = .ok (.istore_n 1, 1) := by decide +kernel
theorem dX2_init_187 : decode cX2_init 187 = .ok (.iload_n 1, 1) := by decide +kernel
theorem dX2_init_188 : decode cX2_init 188 = .ok (.iconst 4, 1) := by decide +kernel
theorem dX2_init_189 : decode cX2_init 189 = .ok (.if_icmp .ge 16, 3) := by decide +kernel
theorem dX2_init_192 : decode cX2_init 192 = .ok (.aload_n 0, 1) := by decide +kernel
theorem dX2_init_193 : decode cX2_init 193 = .ok (.getfield 16, 3) := by decide +kernel
theorem dX2_init_196 : decode cX2_init 196 = .ok (.iload_n 1, 1) := by decide +kernel
theorem dX2_init_197 : decode cX2_init 197 = .ok (.iconst (-1), 1) := by decide +kernel
theorem dX2_init_198 : decode cX2_init 198 = .ok (.iastore, 1) := by decide +kernel
theorem dX2_init_199 : decode cX2_init 199 = .ok (.iinc 1 1, 3) := by decide +kernel
theorem dX2_init_202 : decode cX2_init 202 = .ok (.goto (-15), 3) := by decide +kernel
theorem dX2_init_205 : decode cX2_init 205 = .ok (.return_, 1) := by decide +kernel
theorem dX2_in_0 : decode cX2_in 0 = .ok (.iload_n 0, 1) := by decide +kernel
theorem dX2_in_1 : decode cX2_in 1 = .ok (.iload_n 1, 1) := by decide +kernel
theorem dX2_in_2 : decode cX2_in 2 = .ok (.if_icmp .lt 12, 3) := by decide +kernel
theorem dX2_in_5 : decode cX2_in 5 = .ok (.iload_n 0, 1) := by decide +kernel
theorem dX2_in_6 : decode cX2_in 6 = .ok (.iload_n 2, 1) := by decide +kernel
theorem dX2_in_7 : decode cX2_in 7 = .ok (.if_icmp .gt 7, 3) := by decide +kernel
theorem dX2_in_10 : decode cX2_in 10 = .ok (.iconst 1, 1) := by decide +kernel
theorem dX2_in_11 : decode cX2_in 11 = .ok (.goto 4, 3) := by decide +kernel
theorem dX2_in_14 : decode cX2_in 14 = .ok (.iconst 0, 1) := by decide +kernel
theorem dX2_in_15 : decode cX2_in 15 = .ok (.ireturn, 1) := by decide +kernel
theorem dX2_bits_0 : decode cX2_bits 0 = .ok (.iconst 0, 1) := by decide +kernel
theorem dX2_bits_1 : decode cX2_bits 1 = .ok (.istore_n 1, 1) := by decide +kernel
theorem dX2_bits_2 : decode cX2_bits 2 = .ok (.iload_n 0, 1) := by decide +kernel
theorem dX2_bits_3 : decode cX2_bits 3 = .ok (.istore_n 2, 1) := by decide +kernel
theorem dX2_bits_4 : decode cX2_bits 4 = .ok (.iload_n 2, 1) := by decide +kernel
theorem dX2_bits_5 : decode cX2_bits 5 = .ok (.ifCond .eq 15, 3) := by decide +kernel
theorem dX2_bits_8 : decode cX2_bits 8 = .ok (.iinc 1 1, 3) := by decide +kernel
theorem dX2_bits_11 : decode cX2_bits 11 = .ok (.iload_n 2, 1) := by decide +kernel
theorem dX2_bits_12 : decode cX2_bits 12 = .ok (.iload_n 2, 1) := by decide +kernel
theorem dX2_bits_13 : decode cX2_bits 13 = .ok (.iconst 1, 1) := by decide +kernel
theorem dX2_bits_14 : decode cX2_bits 14 = .ok (.isub, 1) := by decide +kernel
theorem dX2_bits_15 : decode cX2_bits 15 = .ok (.iand, 1) := by decide +kernel
theorem dX2_bits_16 : decode cX2_bits 16 = .ok (.istore_n 2, 1) := by decide +kernel
theorem dX2_bits_17 : decode cX2_bits 17 = .ok (.goto (-13), 3) := by decide +kernel
theorem dX2_bits_20 : decode cX2_bits 20 = .ok (.iload_n 1, 1) := by decide +kernel
theorem dX2_bits_21 : decode cX2_bits 21 = .ok (.ireturn, 1) := by decide +kernel
theorem dX2_bring_0 : decode cX2_bring 0 = .ok (.iconst 0, 1) := by decide +kernel
theorem dX2_bring_1 : decode cX2_bring 1 = .ok (.istore 5, 2) := by decide +kernel
theorem dX2_bring_3 : decode cX2_bring 3 = .ok (.iload 5, 2) := by decide +kernel
theorem dX2_bring_5 : decode cX2_bring 5 = .ok (.iload 4, 2) := by decide +kernel
theorem dX2_bring_7 : decode cX2_bring 7 = .ok (.if_icmp .ge 21, 3) := by decide +kernel
theorem dX2_bring_10 : decode cX2_bring 10 = .ok (.aload_n 2, 1) := by decide +kernel
theorem dX2_bring_11 : decode cX2_bring 11 = .ok (.iload_n 3, 1) := by decide +kernel
theorem dX2_bring_12 : decode cX2_bring 12 = .ok (.iload 5, 2) := by decide +kernel
theorem dX2_bring_14 : decode cX2_bring 14 = .ok (.iadd, 1) := by decide +kernel
theorem dX2_bring_15 : decode cX2_bring 15 = .ok (.aload_n 0, 1) := by decide +kernel
theorem dX2_bring_16 : decode cX2_bring 16 = .ok (.iload_n 1, 1) := by decide +kernel
theorem dX2_bring_17 : decode cX2_bring 17 = .ok (.iload 5, 2) := by decide +kernel
theorem dX2_bring_19 : decode cX2_bring 19 = .ok (.iadd, 1) := by decide +kernel
theorem dX2_bring_20 : decode cX2_bring 20 = .ok (.iaload, 1) := by decide +kernel
theorem dX2_bring_21 : decode cX2_bring 21 = .ok (.iastore, 1) := by decide +kernel
theorem dX2_bring_22 : decode cX2_bring 22 = .ok (.iinc 5 1, 3) := by decide +kernel
theorem dX2_bring_25 : decode cX2_bring 25 = .ok (.goto (-22), 3) := by decide +kernel
theorem dX2_bring_28 : decode cX2_bring 28 = .ok (.return_, 1) := by decide +kernel
theorem dX2_found_0 : decode cX2_found 0 = .ok (.aload_n 0, 1) := by decide +kernel
theorem dX2_found_1 : decode cX2_found 1 = .ok (.iload_n 1, 1) := by decide +kernel
theorem dX2_found_2 : decode cX2_found 2 = .ok (.putfield 72, 3) := by decide +kernel
theorem dX2_found_5 : decode cX2_found 5 = .ok (.aload_n 0, 1) := by decide +kernel
theorem dX2_found_6 : decode cX2_found 6 = .ok (.getfield 51, 3) := by decide +kernel
theorem dX2_found_9 : decode cX2_found 9 = .ok (.iload_n 1, 1) := by decide +kernel
theorem dX2_found_10 : decode cX2_found 10 = .ok (.dup2, 1) := by decide +kernel
theorem dX2_found_11 : decode cX2_found 11 = .ok (.iaload, 1) := by decide +kernel
theorem dX2_found_12 : decode cX2_found 12 = .ok (.iconst 1, 1) := by decide +kernel
theorem dX2_found_13 : decode cX2_found 13 = .ok (.iadd, 1) := by decide +kernel
theorem dX2_found_14 : decode cX2_found 14 = .ok (.iastore, 1) := by decide +kernel
theorem dX2_found_15 : decode cX2_found 15 = .ok (.bipush (-3), 2) := by decide +kernel
theorem dX2_found_17 : decode cX2_found 17 = .ok (.ireturn, 1) := by decide +kernel
theorem dX2_tells_0 : decode cX2_tells 0 = .ok (.aload_n 0, 1) := by decide +kernel
theorem dX2_tells_1 : decode cX2_tells 1 = .ok (.iload_n 1, 1) := by decide +kernel
theorem dX2_tells_2 : decode cX2_tells 2 = .ok (.putfield 76, 3) := by decide +kernel
theorem dX2_tells_5 : decode cX2_tells 5 = .ok (.iload_n 2, 1) := by decide +kernel
theorem dX2_tells_6 : decode cX2_tells 6 = .ok (.ireturn, 1) := by decide +kernel
theorem dX2_isTube_0 : decode cX2_isTube 0 = .ok (.iload_n 1, 1) := by decide +kernel
theorem dX2_isTube_1 : decode cX2_isTube 1 = .ok (.iconst 0, 1) := by decide +kernel
theorem dX2_isTube_2 : decode cX2_isTube 2 = .ok (.aload_n 0, 1) := by decide +kernel
theorem dX2_isTube_3 : decode cX2_isTube 3 = .ok (.getfield 79, 3) := by decide +kernel
theorem dX2_isTube_6 : decode cX2_isTube 6 = .ok (.iconst 1, 1) := by decide +kernel
theorem dX2_isTube_7 : decode cX2_isTube 7 = .ok (.isub, 1) := by decide +kernel
theorem dX2_isTube_8 : decode cX2_isTube 8 = .ok (.invokestatic 82, 3) := by decide +kernel
theorem dX2_isTube_11 : decode cX2_isTube 11 = .ok (.ireturn, 1) := by decide +kernel
theorem dX2_isRow_0 : decode cX2_isRow 0 = .ok (.iload_n 0, 1) := by decide +kernel
theorem dX2_isRow_1 : decode cX2_isRow 1 = .ok (.iconst 0, 1) := by decide +kernel
theorem dX2_isRow_2 : decode cX2_isRow 2 = .ok (.iconst 5, 1) := by decide +kernel
theorem dX2_isRow_3 : decode cX2_isRow 3 = .ok (.invokestatic 82, 3) := by decide +kernel
theorem dX2_isRow_6 : decode cX2_isRow 6 = .ok (.ireturn, 1) := by decide +kernel
theorem dX2_isText_0 : decode cX2_isText 0 = .ok (.iload_n 0, 1) := by decide +kernel
theorem dX2_isText_1 : decode cX2_isText 1 = .ok (.iconst 0, 1) := by decide +kernel
theorem dX2_isText_2 : decode cX2_isText 2 = .ok (.iconst 3, 1) := by decide +kernel
theorem dX2_isText_3 : decode cX2_isText 3 = .ok (.invokestatic 82, 3) := by decide +kernel
theorem dX2_isText_6 : decode cX2_isText 6 = .ok (.ireturn, 1) := by decide +kernel
theorem dX2_makesRow_0 : decode cX2_makesRow 0 = .ok (.aload_n 0, 1) := by decide +kernel
theorem dX2_makesRow_1 : decode cX2_makesRow 1 = .ok (.getfield 7, 3) := by decide +kernel
theorem dX2_makesRow_4 : decode cX2_makesRow 4 = .ok (.iload_n 1, 1) := by decide +kernel
theorem dX2_makesRow_5 : decode cX2_makesRow 5 = .ok (.iload_n 2, 1) := by decide +kernel
theorem dX2_makesRow_6 : decode cX2_makesRow 6 = .ok (.iastore, 1) := by decide +kernel
theorem dX2_makesRow_7 : decode cX2_makesRow 7 = .ok (.iconst 0, 1) := by decide +kernel
theorem dX2_makesRow_8 : decode cX2_makesRow 8 = .ok (.istore_n 3, 1) := by decide +kernel
theorem dX2_makesRow_9 : decode cX2_makesRow 9 = .ok (.iload_n 3, 1) := by decide +kernel
theorem dX2_makesRow_10 : decode cX2_makesRow 10 = .ok (.iload_n 2, 1) := by decide +kernel
theorem dX2_makesRow_11 : decode cX2_makesRow 11 = .ok (.if_icmp .ge 21, 3) := by decide +kernel
theorem dX2_makesRow_14 : decode cX2_makesRow 14 = .ok (.aload_n 0, 1) := by decide +kernel
theorem dX2_makesRow_15 : decode cX2_makesRow 15 = .ok (.getfield 13, 3) := by decide +kernel
theorem dX2_makesRow_18 : decode cX2_makesRow 18 = .ok (.bipush 40, 2) := by decide +kernel
theorem dX2_makesRow_20 : decode cX2_makesRow 20 = .ok (.iload_n 1, 1) := by decide +kernel
theorem dX2_makesRow_21 : decode cX2_makesRow 21 = .ok (.imul, 1) := by decide +kernel
theorem dX2_makesRow_22 : decode cX2_makesRow 22 = .ok (.iload_n 3, 1) := by decide +kernel
theorem dX2_makesRow_23 : decode cX2_makesRow 23 = .ok (.iadd, 1) := by decide +kernel
theorem dX2_makesRow_24 : decode cX2_makesRow 24 = .ok (.iconst 0, 1) := by decide +kernel
theorem dX2_makesRow_25 : decode cX2_makesRow 25 = .ok (.iastore, 1) := by decide +kernel
theorem dX2_makesRow_26 : decode cX2_makesRow 26 = .ok (.iinc 3 1, 3) := by decide +kernel
theorem dX2_makesRow_29 : decode cX2_makesRow 29 = .ok (.goto (-20), 3) := by decide +kernel
theorem dX2_makesRow_32 : decode cX2_makesRow 32 = .ok (.return_, 1) := by decide +kernel
theorem dX2_row_0 : decode cX2_row 0 = .ok (.iload_n 1, 1) := by decide +kernel
theorem dX2_row_1 : decode cX2_row 1 = .ok (.invokestatic 86, 3) := by decide +kernel
theorem dX2_row_4 : decode cX2_row 4 = .ok (.ifCond .eq 9, 3) := by decide +kernel
theorem dX2_row_7 : decode cX2_row 7 = .ok (.iload_n 2, 1) := by decide +kernel
theorem dX2_row_8 : decode cX2_row 8 = .ok (.bipush 40, 2) := by decide +kernel
theorem dX2_row_10 : decode cX2_row 10 = .ok (.if_icmp .le 5, 3) := by decide +kernel
theorem dX2_row_13 : decode cX2_row 13 = .ok (.iconst (-1), 1) := by decide +kernel
theorem dX2_row_14 : decode cX2_row 14 = .ok (.ireturn, 1) := by decide +kernel
theorem dX2_row_15 : decode cX2_row 15 = .ok (.iload_n 2, 1) := by decide +kernel
theorem dX2_row_16 : decode cX2_row 16 = .ok (.ifCond .ge 9, 3) := by decide +kernel
theorem dX2_row_19 : decode cX2_row 19 = .ok (.aload_n 0, 1) := by decide +kernel
theorem dX2_row_20 : decode cX2_row 20 = .ok (.iconst 5, 1) := by decide +kernel
theorem dX2_row_21 : decode cX2_row 21 = .ok (.invokevirtual 90, 3) := by decide +kernel
theorem dX2_row_24 : decode cX2_row 24 = .ok (.ireturn, 1) := by decide +kernel
theorem dX2_row_25 : decode cX2_row 25 = .ok (.aload_n 0, 1) := by decide +kernel
theorem dX2_row_26 : decode cX2_row 26 = .ok (.iload_n 1, 1) := by decide +kernel
theorem dX2_row_27 : decode cX2_row 27 = .ok (.iload_n 2, 1) := by decide +kernel
theorem dX2_row_28 : decode cX2_row 28 = .ok (.invokevirtual 94, 3) := by decide +kernel
theorem dX2_row_31 : decode cX2_row 31 = .ok (.iload_n 2, 1) := by decide +kernel
theorem dX2_row_32 : decode cX2_row 32 = .ok (.ireturn, 1) := by decide +kernel
theorem dX2_placeOf_0 : decode cX2_placeOf 0 = .ok (.aload_n 0, 1) := by decide +kernel
theorem dX2_placeOf_1 : decode cX2_placeOf 1 = .ok (.getfield 7, 3) := by decide +kernel
theorem dX2_placeOf_4 : decode cX2_placeOf 4 = .ok (.iload_n 1, 1) := by decide +kernel
theorem dX2_placeOf_5 : decode cX2_placeOf 5 = .ok (.iaload, 1) := by decide +kernel
theorem dX2_placeOf_6 : decode cX2_placeOf 6 = .ok (.ifCond .ge 7, 3) := by decide +kernel
theorem dX2_placeOf_9 : decode cX2_placeOf 9 = .ok (.iconst 1, 1) := by decide +kernel
theorem dX2_placeOf_10 : decode cX2_placeOf 10 = .ok (.goto 24, 3) := by decide +kernel
theorem dX2_placeOf_13 : decode cX2_placeOf 13 = .ok (.iload_n 2, 1) := by decide +kernel
theorem dX2_placeOf_14 : decode cX2_placeOf 14 = .ok (.iconst 0, 1) := by decide +kernel
theorem dX2_placeOf_15 : decode cX2_placeOf 15 = .ok (.aload_n 0, 1) := by decide +kernel
theorem dX2_placeOf_16 : decode cX2_placeOf 16 = .ok (.getfield 7, 3) := by decide +kernel
theorem dX2_placeOf_19 : decode cX2_placeOf 19 = .ok (.iload_n 1, 1) := by decide +kernel
theorem dX2_placeOf_20 : decode cX2_placeOf 20 = .ok (.iaload, 1) := by decide +kernel
theorem dX2_placeOf_21 : decode cX2_placeOf 21 = .ok (.iconst 1, 1) := by decide +kernel
theorem dX2_placeOf_22 : decode cX2_placeOf 22 = .ok (.isub, 1) := by decide +kernel
theorem dX2_placeOf_23 : decode cX2_placeOf 23 = .ok (.invokestatic 82, 3) := by decide +kernel
theorem dX2_placeOf_26 : decode cX2_placeOf 26 = .ok (.ifCond .eq 7, 3) := by decide +kernel
theorem dX2_placeOf_29 : decode cX2_placeOf 29 = .ok (.iconst 0, 1) := by decide +kernel
theorem dX2_placeOf_30 : decode cX2_placeOf 30 = .ok (.goto 4, 3) := by decide +kernel
theorem dX2_placeOf_33 : decode cX2_placeOf 33 = .ok (.iconst 2, 1) := by decide +kernel
theorem dX2_placeOf_34 : decode cX2_placeOf 34 = .ok (.ireturn, 1) := by decide +kernel
theorem dX2_lay_0 : decode cX2_lay 0 = .ok (.iload_n 1, 1) := by decide +kernel
theorem dX2_lay_1 : decode cX2_lay 1 = .ok (.invokestatic 86, 3) := by decide +kernel
theorem dX2_lay_4 : decode cX2_lay 4 = .ok (.ifCond .ne 5, 3) := by decide +kernel
theorem dX2_lay_7 : decode cX2_lay 7 = .ok (.iconst (-1), 1) := by decide +kernel
theorem dX2_lay_8 : decode cX2_lay 8 = .ok (.ireturn, 1) := by decide +kernel
theorem dX2_lay_9 : decode cX2_lay 9 = .ok (.aload_n 0, 1) := by decide +kernel
theorem dX2_lay_10 : decode cX2_lay 10 = .ok (.iload_n 1, 1) := by decide +kernel
theorem dX2_lay_11 : decode cX2_lay 11 = .ok (.iload_n 2, 1) := by decide +kernel
theorem dX2_lay_12 : decode cX2_lay 12 = .ok (.invokevirtual 98, 3) := by decide +kernel
theorem dX2_lay_15 : decode cX2_lay 15 = .ok (.istore 4, 2) := by decide +kernel
theorem dX2_lay_17 : decode cX2_lay 17 = .ok (.iload 4, 2) := by decide +kernel
theorem dX2_lay_19 : decode cX2_lay 19 = .ok (.ifCond .eq 10, 3) := by decide +kernel
theorem dX2_lay_22 : decode cX2_lay 22 = .ok (.aload_n 0, 1) := by decide +kernel
theorem dX2_lay_23 : decode cX2_lay 23 = .ok (.iload 4, 2) := by decide +kernel
theorem dX2_lay_25 : decode cX2_lay 25 = .ok (.invokevirtual 90, 3) := by decide +kernel
theorem dX2_lay_28 : decode cX2_lay 28 = .ok (.ireturn, 1) := by decide +kernel
theorem dX2_lay_29 : decode cX2_lay 29 = .ok (.aload_n 0, 1) := by decide +kernel
theorem dX2_lay_30 : decode cX2_lay 30 = .ok (.getfield 13, 3) := by decide +kernel
theorem dX2_lay_33 : decode cX2_lay 33 = .ok (.bipush 40, 2) := by decide +kernel
theorem dX2_lay_35 : decode cX2_lay 35 = .ok (.iload_n 1, 1) := by decide +kernel
theorem dX2_lay_36 : decode cX2_lay 36 = .ok (.imul, 1) := by decide +kernel
theorem dX2_lay_37 : decode cX2_lay 37 = .ok (.iload_n 2, 1) := by decide +kernel
theorem dX2_lay_38 : decode cX2_lay 38 = .ok (.iadd, 1) := by decide +kernel
theorem dX2_lay_39 : decode cX2_lay 39 = .ok (.iaload, 1) := by decide +kernel
theorem dX2_lay_40 : decode cX2_lay 40 = .ok (.istore 5, 2) := by decide +kernel
theorem dX2_lay_42 : decode cX2_lay 42 = .ok (.aload_n 0, 1) := by decide +kernel
theorem dX2_lay_43 : decode cX2_lay 43 = .ok (.getfield 13, 3) := by decide +kernel
theorem dX2_lay_46 : decode cX2_lay 46 = .ok (.bipush 40, 2) := by decide +kernel
theorem dX2_lay_48 : decode cX2_lay 48 = .ok (.iload_n 1, 1) := by decide +kernel
theorem dX2_lay_49 : decode cX2_lay 49 = .ok (.imul, 1) := by decide +kernel
theorem dX2_lay_50 : decode cX2_lay 50 = .ok (.iload_n 2, 1) := by decide +kernel
theorem dX2_lay_51 : decode cX2_lay 51 = .ok (.iadd, 1) := by decide +kernel
theorem dX2_lay_52 : decode cX2_lay 52 = .ok (.iload_n 3, 1) := by decide +kernel
theorem dX2_lay_53 : decode cX2_lay 53 = .ok (.iastore, 1) := by decide +kernel
theorem dX2_lay_54 : decode cX2_lay 54 = .ok (.aload_n 0, 1) := by decide +kernel
theorem dX2_lay_55 : decode cX2_lay 55 = .ok (.iload 5, 2) := by decide +kernel
theorem dX2_lay_57 : decode cX2_lay 57 = .ok (.iconst 1, 1) := by decide +kernel
theorem dX2_lay_58 : decode cX2_lay 58 = .ok (.invokevirtual 102, 3) := by decide +kernel
theorem dX2_lay_61 : decode cX2_lay 61 = .ok (.ireturn, 1) := by decide +kernel
theorem dX2_at_0 : decode cX2_at 0 = .ok (.iload_n 1, 1) := by decide +kernel
theorem dX2_at_1 : decode cX2_at 1 = .ok (.invokestatic 86, 3) := by decide +kernel
theorem dX2_at_4 : decode cX2_at 4 = .ok (.ifCond .ne 5, 3) := by decide +kernel
theorem dX2_at_7 : decode cX2_at 7 = .ok (.iconst (-1), 1) := by decide +kernel
theorem dX2_at_8 : decode cX2_at 8 = .ok (.ireturn, 1) := by decide +kernel
theorem dX2_at_9 : decode cX2_at 9 = .ok (.aload_n 0, 1) := by decide +kernel
theorem dX2_at_10 : decode cX2_at 10 = .ok (.iload_n 1, 1) := by decide +kernel
theorem dX2_at_11 : decode cX2_at 11 = .ok (.iload_n 2, 1) := by decide +kernel
theorem dX2_at_12 : decode cX2_at 12 = .ok (.invokevirtual 98, 3) := by decide +kernel
theorem dX2_at_15 : decode cX2_at 15 = .ok (.istore_n 3, 1) := by decide +kernel
theorem dX2_at_16 : decode cX2_at 16 = .ok (.iload_n 3, 1) := by decide +kernel
theorem dX2_at_17 : decode cX2_at 17 = .ok (.ifCond .eq 11, 3) := by decide +kernel
theorem dX2_at_20 : decode cX2_at 20 = .ok (.aload_n 0, 1) := by decide +kernel
theorem dX2_at_21 : decode cX2_at 21 = .ok (.iload_n 3, 1) := by decide +kernel
theorem dX2_at_22 : decode cX2_at 22 = .ok (.invokevirtual 90, 3) := by decide +kernel
theorem dX2_at_25 : decode cX2_at 25 = .ok (.goto 19, 3) := by decide +kernel
theorem dX2_at_28 : decode cX2_at 28 = .ok (.aload_n 0, 1) := by decide +kernel
theorem dX2_at_29 : decode cX2_at 29 = .ok (.aload_n 0, 1) := by decide +kernel
theorem dX2_at_30 : decode cX2_at 30 = .ok (.getfield 13, 3) := by decide +kernel
theorem dX2_at_33 : decode cX2_at 33 = .ok (.bipush 40, 2) := by decide +kernel
theorem dX2_at_35 : decode cX2_at 35 = .ok (.iload_n 1, 1) := by decide +kernel
theorem dX2_at_36 : decode cX2_at 36 = .ok (.imul, 1) := by decide +kernel
theorem dX2_at_37 : decode cX2_at 37 = .ok (.iload_n 2, 1) := by decide +kernel
theorem dX2_at_38 : decode cX2_at 38 = .ok (.iadd, 1) := by decide +kernel
theorem dX2_at_39 : decode cX2_at 39 = .ok (.iaload, 1) := by decide +kernel
theorem dX2_at_40 : decode cX2_at 40 = .ok (.iconst 1, 1) := by decide +kernel
theorem dX2_at_41 : decode cX2_at 41 = .ok (.invokevirtual 102, 3) := by decide +kernel
theorem dX2_at_44 : decode cX2_at 44 = .ok (.ireturn, 1) := by decide +kernel
theorem dX2_tear_0 : decode cX2_tear 0 = .ok (.iload_n 1, 1) := by decide +kernel
theorem dX2_tear_1 : decode cX2_tear 1 = .ok (.invokestatic 86, 3) := by decide +kernel
theorem dX2_tear_4 : decode cX2_tear 4 = .ok (.ifCond .ne 5, 3) := by decide +kernel
theorem dX2_tear_7 : decode cX2_tear 7 = .ok (.iconst (-1), 1) := by decide +kernel
theorem dX2_tear_8 : decode cX2_tear 8 = .ok (.ireturn, 1) := by decide +kernel
theorem dX2_tear_9 : decode cX2_tear 9 = .ok (.aload_n 0, 1) := by decide +kernel
theorem dX2_tear_10 : decode cX2_tear 10 = .ok (.getfield 7, 3) := by decide +kernel
theorem dX2_tear_13 : decode cX2_tear 13 = .ok (.iload_n 1, 1) := by decide +kernel
theorem dX2_tear_14 : decode cX2_tear 14 = .ok (.iaload, 1) := by decide +kernel
theorem dX2_tear_15 : decode cX2_tear 15 = .ok (.ifCond .ge 9, 3) := by decide +kernel
theorem dX2_tear_18 : decode cX2_tear 18 = .ok (.aload_n 0, 1) := by decide +kernel
theorem dX2_tear_19 : decode cX2_tear 19 = .ok (.iconst 1, 1) := by decide +kernel
theorem dX2_tear_20 : decode cX2_tear 20 = .ok (.invokevirtual 90, 3) := by decide +kernel
theorem dX2_tear_23 : decode cX2_tear 23 = .ok (.ireturn, 1) := by decide +kernel
theorem dX2_tear_24 : decode cX2_tear 24 = .ok (.aload_n 0, 1) := by decide +kernel
theorem dX2_tear_25 : decode cX2_tear 25 = .ok (.getfield 7, 3) := by decide +kernel
theorem dX2_tear_28 : decode cX2_tear 28 = .ok (.iload_n 1, 1) := by decide +kernel
theorem dX2_tear_29 : decode cX2_tear 29 = .ok (.iconst (-1), 1) := by decide +kernel
theorem dX2_tear_30 : decode cX2_tear 30 = .ok (.iastore, 1) := by decide +kernel
theorem dX2_tear_31 : decode cX2_tear 31 = .ok (.iconst 1, 1) := by decide +kernel
theorem dX2_tear_32 : decode cX2_tear 32 = .ok (.ireturn, 1) := by decide +kernel
theorem dX2_copy_0 : decode cX2_copy 0 = .ok (.iload_n 1, 1) := by decide +kernel
theorem dX2_copy_1 : decode cX2_copy 1 = .ok (.invokestatic 86, 3) := by decide +kernel
theorem dX2_copy_4 : decode cX2_copy 4 = .ok (.ifCond .eq 10, 3) := by decide +kernel
theorem dX2_copy_7 : decode cX2_copy 7 = .ok (.iload_n 3, 1) := by decide +kernel
theorem dX2_copy_8 : decode cX2_copy 8 = .ok (.invokestatic 86, 3) := by decide +kernel
theorem dX2_copy_11 : decode cX2_copy 11 = .ok (.ifCond .ne 5, 3) := by decide +kernel
theorem dX2_copy_14 : decode cX2_copy 14 = .ok (.iconst (-1), 1) := by decide +kernel
theorem dX2_copy_15 : decode cX2_copy 15 = .ok (.ireturn, 1) := by decide +kernel
theorem dX2_copy_16 : decode cX2_copy 16 = .ok (.iload 5, 2) := by decide +kernel
theorem dX2_copy_18 : decode cX2_copy 18 = .ok (.ifCond .ge 9, 3) := by decide +kernel
theorem dX2_copy_21 : decode cX2_copy 21 = .ok (.aload_n 0, 1) := by decide +kernel
theorem dX2_copy_22 : decode cX2_copy 22 = .ok (.iconst 5, 1) := by decide +kernel
theorem dX2_copy_23 : decode cX2_copy 23 = .ok (.invokevirtual 90, 3) := by decide +kernel
theorem dX2_copy_26 : decode cX2_copy 26 = .ok (.ireturn, 1) := by decide +kernel
theorem dX2_copy_27 : decode cX2_copy 27 = .ok (.aload_n 0, 1) := by decide +kernel
theorem dX2_copy_28 : decode cX2_copy 28 = .ok (.getfield 7, 3) := by decide +kernel
theorem dX2_copy_31 : decode cX2_copy 31 = .ok (.iload_n 1, 1) := by decide +kernel
theorem dX2_copy_32 : decode cX2_copy 32 = .ok (.iaload, 1) := by decide +kernel
theorem dX2_copy_33 : decode cX2_copy 33 = .ok (.ifCond .lt 12, 3) := by decide +kernel
theorem dX2_copy_36 : decode cX2_copy 36 = .ok (.aload_n 0, 1) := by decide +kernel
theorem dX2_copy_37 : decode cX2_copy 37 = .ok (.getfield 7, 3) := by decide +kernel
theorem dX2_copy_40 : decode cX2_copy 40 = .ok (.iload_n 3, 1) := by decide +kernel
theorem dX2_copy_41 : decode cX2_copy 41 = .ok (.iaload, 1) := by decide +kernel
theorem dX2_copy_42 : decode cX2_copy 42 = .ok (.ifCond .ge 9, 3) := by decide +kernel
theorem dX2_copy_45 : decode cX2_copy 45 = .ok (.aload_n 0, 1) := by decide +kernel
theorem dX2_copy_46 : decode cX2_copy 46 = .ok (.iconst 1, 1) := by decide +kernel
theorem dX2_copy_47 : decode cX2_copy 47 = .ok (.invokevirtual 90, 3) := by decide +kernel
theorem dX2_copy_50 : decode cX2_copy 50 = .ok (.ireturn, 1) := by decide +kernel
theorem dX2_copy_51 : decode cX2_copy 51 = .ok (.iload_n 2, 1) := by decide +kernel
theorem dX2_copy_52 : decode cX2_copy 52 = .ok (.ifCond .lt 42, 3) := by decide +kernel
theorem dX2_copy_55 : decode cX2_copy 55 = .ok (.iload 4, 2) := by decide +kernel
theorem dX2_copy_57 : decode cX2_copy 57 = .ok (.ifCond .lt 37, 3) := by decide +kernel
theorem dX2_copy_60 : decode cX2_copy 60 = .ok (.iload 5, 2) := by decide +kernel
theorem dX2_copy_62 : decode cX2_copy 62 = .ok (.bipush 40, 2) := by decide +kernel
theorem dX2_copy_64 : decode cX2_copy 64 = .ok (.if_icmp .gt 30, 3) := by decide +kernel
theorem dX2_copy_67 : decode cX2_copy 67 = .ok (.iload_n 2, 1) := by decide +kernel
theorem dX2_copy_68 : decode cX2_copy 68 = .ok (.aload_n 0, 1) := by decide +kernel
theorem dX2_copy_69 : decode cX2_copy 69 = .ok (.getfield 7, 3) := by decide +kernel
theorem dX2_copy_72 : decode cX2_copy 72 = .ok (.iload_n 1, 1) := by decide +kernel
theorem dX2_copy_73 : decode cX2_copy 73 = .ok (.iaload, 1) := by decide +kernel
theorem dX2_copy_74 : decode cX2_copy 74 = .ok (.iload 5, 2) := by decide +kernel
theorem dX2_copy_76 : decode cX2_copy 76 = .ok (.isub, 1) := by decide +kernel
theorem dX2_copy_77 : decode cX2_copy 77 = .ok (.if_icmp .gt 17, 3) := by decide +kernel
theorem dX2_copy_80 : decode cX2_copy 80 = .ok (.iload 4, 2) := by decide +kernel
theorem dX2_copy_82 : decode cX2_copy 82 = .ok (.aload_n 0, 1) := by decide +kernel
theorem dX2_copy_83 : decode cX2_copy 83 = .ok (.getfield 7, 3) := by decide +kernel
theorem dX2_copy_86 : decode cX2_copy 86 = .ok (.iload_n 3, 1) := by decide +kernel
theorem dX2_copy_87 : decode cX2_copy 87 = .ok (.iaload, 1) := by decide +kernel
theorem dX2_copy_88 : decode cX2_copy 88 = .ok (.iload 5, 2) := by decide +kernel
theorem dX2_copy_90 : decode cX2_copy 90 = .ok (.isub, 1) := by decide +kernel
theorem dX2_copy_91 : decode cX2_copy 91 = .ok (.if_icmp .le 9, 3) := by decide +kernel
theorem dX2_copy_94 : decode cX2_copy 94 = .ok (.aload_n 0, 1) := by decide +kernel
theorem dX2_copy_95 : decode cX2_copy 95 = .ok (.iconst 2, 1) := by decide +kernel
theorem dX2_copy_96 : decode cX2_copy 96 = .ok (.invokevirtual 90, 3) := by decide +kernel
theorem dX2_copy_99 : decode cX2_copy 99 = .ok (.ireturn, 1) := by decide +kernel
theorem dX2_copy_100 : decode cX2_copy 100 = .ok (.iload 4, 2) := by decide +kernel
theorem dX2_copy_102 : decode cX2_copy 102 = .ok (.iload_n 2, 1) := by decide +kernel
theorem dX2_copy_103 : decode cX2_copy 103 = .ok (.if_icmp .le 7, 3) := by decide +kernel
theorem dX2_copy_106 : decode cX2_copy 106 = .ok (.iconst 1, 1) := by decide +kernel
theorem dX2_copy_107 : decode cX2_copy 107 = .ok (.goto 4, 3) := by decide +kernel
theorem dX2_copy_110 : decode cX2_copy 110 = .ok (.iconst 0, 1) := by decide +kernel
theorem dX2_copy_111 : decode cX2_copy 111 = .ok (.istore 6, 2) := by decide +kernel
theorem dX2_copy_113 : decode cX2_copy 113 = .ok (.iconst 0, 1) := by decide +kernel
theorem dX2_copy_114 : decode cX2_copy 114 = .ok (.istore 7, 2) := by decide +kernel
theorem dX2_copy_116 : decode cX2_copy 116 = .ok (.iload 7, 2) := by decide +kernel
theorem dX2_copy_118 : decode cX2_copy 118 = .ok (.iload 5, 2) := by decide +kernel
theorem dX2_copy_120 : decode cX2_copy 120 = .ok (.if_icmp .ge 57, 3) := by decide +kernel
theorem dX2_copy_123 : decode cX2_copy 123 = .ok (.iload 6, 2) := by decide +kernel
theorem dX2_copy_125 : decode cX2_copy 125 = .ok (.ifCond .eq 13, 3) := by decide +kernel
theorem dX2_copy_128 : decode cX2_copy 128 = .ok (.iload 5, 2) := by decide +kernel
theorem dX2_copy_130 : decode cX2_copy 130 = .ok (.iconst 1, 1) := by decide +kernel
theorem dX2_copy_131 : decode cX2_copy 131 = .ok (.isub, 1) := by decide +kernel
theorem dX2_copy_132 : decode cX2_copy 132 = .ok (.iload 7, 2) := by decide +kernel
theorem dX2_copy_134 : decode cX2_copy 134 = .ok (.isub, 1) := by decide +kernel
theorem dX2_copy_135 : decode cX2_copy 135 = .ok (.goto 5, 3) := by decide +kernel
theorem dX2_copy_138 : decode cX2_copy 138 = .ok (.iload 7, 2) := by decide +kernel
theorem dX2_copy_140 : decode cX2_copy 140 = .ok (.istore 8, 2) := by decide +kernel
theorem dX2_copy_142 : decode cX2_copy 142 = .ok (.aload_n 0, 1) := by decide +kernel
theorem dX2_copy_143 : decode cX2_copy 143 = .ok (.getfield 13, 3) := by decide +kernel
theorem dX2_copy_146 : decode cX2_copy 146 = .ok (.bipush 40, 2) := by decide +kernel
theorem dX2_copy_148 : decode cX2_copy 148 = .ok (.iload_n 3, 1) := by decide +kernel
theorem dX2_copy_149 : decode cX2_copy 149 = .ok (.imul, 1) := by decide +kernel
theorem dX2_copy_150 : decode cX2_copy 150 = .ok (.iload 4, 2) := by decide +kernel
theorem dX2_copy_152 : decode cX2_copy 152 = .ok (.iadd, 1) := by decide +kernel
theorem dX2_copy_153 : decode cX2_copy 153 = .ok (.iload 8, 2) := by decide +kernel
theorem dX2_copy_155 : decode cX2_copy 155 = .ok (.iadd, 1) := by decide +kernel
theorem dX2_copy_156 : decode cX2_copy 156 = .ok (.aload_n 0, 1) := by decide +kernel
theorem dX2_copy_157 : decode cX2_copy 157 = .ok (.getfield 13, 3) := by decide +kernel
theorem dX2_copy_160 : decode cX2_copy 160 = .ok (.bipush 40, 2) := by decide +kernel
theorem dX2_copy_162 : decode cX2_copy 162 = .ok (.iload_n 1, 1) := by decide +kernel
theorem dX2_copy_163 : decode cX2_copy 163 = .ok (.imul, 1) := by decide +kernel
theorem dX2_copy_164 : decode cX2_copy 164 = .ok (.iload_n 2, 1) := by decide +kernel
theorem dX2_copy_165 : decode cX2_copy 165 = .ok (.iadd, 1) := by decide +kernel
theorem dX2_copy_166 : decode cX2_copy 166 = .ok (.iload 8, 2) := by decide +kernel
theorem dX2_copy_168 : decode cX2_copy 168 = .ok (.iadd, 1) := by decide +kernel
theorem dX2_copy_169 : decode cX2_copy 169 = .ok (.iaload, 1) := by decide +kernel
theorem dX2_copy_170 : decode cX2_copy 170 = .ok (.iastore, 1) := by decide +kernel
theorem dX2_copy_171 : decode cX2_copy 171 = .ok (.iinc 7 1, 3) := by decide +kernel
theorem dX2_copy_174 : decode cX2_copy 174 = .ok (.goto (-58), 3) := by decide +kernel
theorem dX2_copy_177 : decode cX2_copy 177 = .ok (.iconst 1, 1) := by decide +kernel
theorem dX2_copy_178 : decode cX2_copy 178 = .ok (.ireturn, 1) := by decide +kernel
theorem dX2_mean_0 : decode cX2_mean 0 = .ok (.iload_n 1, 1) := by decide +kernel
theorem dX2_mean_1 : decode cX2_mean 1 = .ok (.invokestatic 86, 3) := by decide +kernel
theorem dX2_mean_4 : decode cX2_mean 4 = .ok (.ifCond .ne 5, 3) := by decide +kernel
theorem dX2_mean_7 : decode cX2_mean 7 = .ok (.iconst (-1), 1) := by decide +kernel
theorem dX2_mean_8 : decode cX2_mean 8 = .ok (.ireturn, 1) := by decide +kernel
theorem dX2_mean_9 : decode cX2_mean 9 = .ok (.aload_n 0, 1) := by decide +kernel
theorem dX2_mean_10 : decode cX2_mean 10 = .ok (.getfield 7, 3) := by decide +kernel
theorem dX2_mean_13 : decode cX2_mean 13 = .ok (.iload_n 1, 1) := by decide +kernel
theorem dX2_mean_14 : decode cX2_mean 14 = .ok (.iaload, 1) := by decide +kernel
theorem dX2_mean_15 : decode cX2_mean 15 = .ok (.ifCond .ge 9, 3) := by decide +kernel
theorem dX2_mean_18 : decode cX2_mean 18 = .ok (.aload_n 0, 1) := by decide +kernel
theorem dX2_mean_19 : decode cX2_mean 19 = .ok (.iconst 1, 1) := by decide +kernel
theorem dX2_mean_20 : decode cX2_mean 20 = .ok (.invokevirtual 90, 3) := by decide +kernel
theorem dX2_mean_23 : decode cX2_mean 23 = .ok (.ireturn, 1) := by decide +kernel
theorem dX2_mean_24 : decode cX2_mean 24 = .ok (.aload_n 0, 1) := by decide +kernel
theorem dX2_mean_25 : decode cX2_mean 25 = .ok (.getfield 7, 3) := by decide +kernel
theorem dX2_mean_28 : decode cX2_mean 28 = .ok (.iload_n 1, 1) := by decide +kernel
theorem dX2_mean_29 : decode cX2_mean 29 = .ok (.iaload, 1) := by decide +kernel
theorem dX2_mean_30 : decode cX2_mean 30 = .ok (.ifCond .ne 9, 3) := by decide +kernel
theorem dX2_mean_33 : decode cX2_mean 33 = .ok (.aload_n 0, 1) := by decide +kernel
theorem dX2_mean_34 : decode cX2_mean 34 = .ok (.iconst 4, 1) := by decide +kernel
theorem dX2_mean_35 : decode cX2_mean 35 = .ok (.invokevirtual 90, 3) := by decide +kernel
theorem dX2_mean_38 : decode cX2_mean 38 = .ok (.ireturn, 1) := by decide +kernel
theorem dX2_mean_39 : decode cX2_mean 39 = .ok (.lconst 0, 1) := by decide +kernel
theorem dX2_mean_40 : decode cX2_mean 40 = .ok (.lstore_n 2, 1) := by decide +kernel
theorem dX2_mean_41 : decode cX2_mean 41 = .ok (.iconst 0, 1) := by decide +kernel
theorem dX2_mean_42 : decode cX2_mean 42 = .ok (.istore 4, 2) := by decide +kernel
theorem dX2_mean_44 : decode cX2_mean 44 = .ok (.iload 4, 2) := by decide +kernel
theorem dX2_mean_46 : decode cX2_mean 46 = .ok (.aload_n 0, 1) := by decide +kernel
theorem dX2_mean_47 : decode cX2_mean 47 = .ok (.getfield 7, 3) := by decide +kernel
theorem dX2_mean_50 : decode cX2_mean 50 = .ok (.iload_n 1, 1) := by decide +kernel
theorem dX2_mean_51 : decode cX2_mean 51 = .ok (.iaload, 1) := by decide +kernel
theorem dX2_mean_52 : decode cX2_mean 52 = .ok (.if_icmp .ge 25, 3) := by decide +kernel
theorem dX2_mean_55 : decode cX2_mean 55 = .ok (.lload_n 2, 1) := by decide +kernel
theorem dX2_mean_56 : decode cX2_mean 56 = .ok (.aload_n 0, 1) := by decide +kernel
theorem dX2_mean_57 : decode cX2_mean 57 = .ok (.getfield 13, 3) := by decide +kernel
theorem dX2_mean_60 : decode cX2_mean 60 = .ok (.bipush 40, 2) := by decide +kernel
theorem dX2_mean_62 : decode cX2_mean 62 = .ok (.iload_n 1, 1) := by decide +kernel
theorem dX2_mean_63 : decode cX2_mean 63 = .ok (.imul, 1) := by decide +kernel
theorem dX2_mean_64 : decode cX2_mean 64 = .ok (.iload 4, 2) := by decide +kernel
theorem dX2_mean_66 : decode cX2_mean 66 = .ok (.iadd, 1) := by decide +kernel
theorem dX2_mean_67 : decode cX2_mean 67 = .ok (.iaload, 1) := by decide +kernel
theorem dX2_mean_68 : decode cX2_mean 68 = .ok (.i2l, 1) := by decide +kernel
theorem dX2_mean_69 : decode cX2_mean 69 = .ok (.ladd, 1) := by decide +kernel
theorem dX2_mean_70 : decode cX2_mean 70 = .ok (.lstore_n 2, 1) := by decide +kernel
theorem dX2_mean_71 : decode cX2_mean 71 = .ok (.iinc 4 1, 3) := by decide +kernel
theorem dX2_mean_74 : decode cX2_mean 74 = .ok (.goto (-30), 3) := by decide +kernel
theorem dX2_mean_77 : decode cX2_mean 77 = .ok (.aload_n 0, 1) := by decide +kernel
theorem dX2_mean_78 : decode cX2_mean 78 = .ok (.lload_n 2, 1) := by decide +kernel
theorem dX2_mean_79 : decode cX2_mean 79 = .ok (.aload_n 0, 1) := by decide +kernel
theorem dX2_mean_80 : decode cX2_mean 80 = .ok (.getfield 7, 3) := by decide +kernel
theorem dX2_mean_83 : decode cX2_mean 83 = .ok (.iload_n 1, 1) := by decide +kernel
theorem dX2_mean_84 : decode cX2_mean 84 = .ok (.iaload, 1) := by decide +kernel
theorem dX2_mean_85 : decode cX2_mean 85 = .ok (.i2l, 1) := by decide +kernel
theorem dX2_mean_86 : decode cX2_mean 86 = .ok (.ldiv, 1) := by decide +kernel
theorem dX2_mean_87 : decode cX2_mean 87 = .ok (.l2i, 1) := by decide +kernel
theorem dX2_mean_88 : decode cX2_mean 88 = .ok (.iconst 1, 1) := by decide +kernel
theorem dX2_mean_89 : decode cX2_mean 89 = .ok (.invokevirtual 102, 3) := by decide +kernel
theorem dX2_mean_92 : decode cX2_mean 92 = .ok (.ireturn, 1) := by decide +kernel
theorem dX2_text_0 : decode cX2_text 0 = .ok (.iload_n 1, 1) := by decide +kernel
theorem dX2_text_1 : decode cX2_text 1 = .ok (.invokestatic 105, 3) := by decide +kernel
theorem dX2_text_4 : decode cX2_text 4 = .ok (.ifCond .eq 9, 3) := by decide +kernel
theorem dX2_text_7 : decode cX2_text 7 = .ok (.iload_n 2, 1) := by decide +kernel
theorem dX2_text_8 : decode cX2_text 8 = .ok (.bipush 60, 2) := by decide +kernel
theorem dX2_text_10 : decode cX2_text 10 = .ok (.if_icmp .le 5, 3) := by decide +kernel
theorem dX2_text_13 : decode cX2_text 13 = .ok (.iconst (-1), 1) := by decide +kernel
theorem dX2_text_14 : decode cX2_text 14 = .ok (.ireturn, 1) := by decide +kernel
theorem dX2_text_15 : decode cX2_text 15 = .ok (.iload_n 2, 1) := by decide +kernel
theorem dX2_text_16 : decode cX2_text 16 = .ok (.ifCond .ge 9, 3) := by decide +kernel
theorem dX2_text_19 : decode cX2_text 19 = .ok (.aload_n 0, 1) := by decide +kernel
theorem dX2_text_20 : decode cX2_text 20 = .ok (.iconst 5, 1) := by decide +kernel
theorem dX2_text_21 : decode cX2_text 21 = .ok (.invokevirtual 90, 3) := by decide +kernel
theorem dX2_text_24 : decode cX2_text 24 = .ok (.ireturn, 1) := by decide +kernel
theorem dX2_text_25 : decode cX2_text 25 = .ok (.aload_n 0, 1) := by decide +kernel
theorem dX2_text_26 : decode cX2_text 26 = .ok (.getfield 16, 3) := by decide +kernel
theorem dX2_text_29 : decode cX2_text 29 = .ok (.iload_n 1, 1) := by decide +kernel
theorem dX2_text_30 : decode cX2_text 30 = .ok (.iload_n 2, 1) := by decide +kernel
theorem dX2_text_31 : decode cX2_text 31 = .ok (.iastore, 1) := by decide +kernel
theorem dX2_text_32 : decode cX2_text 32 = .ok (.iconst 0, 1) := by decide +kernel
theorem dX2_text_33 : decode cX2_text 33 = .ok (.istore_n 3, 1) := by decide +kernel
theorem dX2_text_34 : decode cX2_text 34 = .ok (.iload_n 3, 1) := by decide +kernel
theorem dX2_text_35 : decode cX2_text 35 = .ok (.iload_n 2, 1) := by decide +kernel
theorem dX2_text_36 : decode cX2_text 36 = .ok (.if_icmp .ge 22, 3) := by decide +kernel
theorem dX2_text_39 : decode cX2_text 39 = .ok (.aload_n 0, 1) := by decide +kernel
theorem dX2_text_40 : decode cX2_text 40 = .ok (.getfield 19, 3) := by decide +kernel
theorem dX2_text_43 : decode cX2_text 43 = .ok (.bipush 60, 2) := by decide +kernel
theorem dX2_text_45 : decode cX2_text 45 = .ok (.iload_n 1, 1) := by decide +kernel
theorem dX2_text_46 : decode cX2_text 46 = .ok (.imul, 1) := by decide +kernel
theorem dX2_text_47 : decode cX2_text 47 = .ok (.iload_n 3, 1) := by decide +kernel
theorem dX2_text_48 : decode cX2_text 48 = .ok (.iadd, 1) := by decide +kernel
theorem dX2_text_49 : decode cX2_text 49 = .ok (.bipush 32, 2) := by decide +kernel
theorem dX2_text_51 : decode cX2_text 51 = .ok (.iastore, 1) := by decide +kernel
theorem dX2_text_52 : decode cX2_text 52 = .ok (.iinc 3 1, 3) := by decide +kernel
theorem dX2_text_55 : decode cX2_text 55 = .ok (.goto (-21), 3) := by decide +kernel
theorem dX2_text_58 : decode cX2_text 58 = .ok (.iload_n 2, 1) := by decide +kernel
theorem dX2_text_59 : decode cX2_text 59 = .ok (.ireturn, 1) := by decide +kernel
theorem dX2_put_0 : decode cX2_put 0 = .ok (.iload_n 1, 1) := by decide +kernel
theorem dX2_put_1 : decode cX2_put 1 = .ok (.invokestatic 105, 3) := by decide +kernel
theorem dX2_put_4 : decode cX2_put 4 = .ok (.ifCond .ne 5, 3) := by decide +kernel
theorem dX2_put_7 : decode cX2_put 7 = .ok (.iconst (-1), 1) := by decide +kernel
theorem dX2_put_8 : decode cX2_put 8 = .ok (.ireturn, 1) := by decide +kernel
theorem dX2_put_9 : decode cX2_put 9 = .ok (.aload_n 0, 1) := by decide +kernel
theorem dX2_put_10 : decode cX2_put 10 = .ok (.getfield 16, 3) := by decide +kernel
theorem dX2_put_13 : decode cX2_put 13 = .ok (.iload_n 1, 1) := by decide +kernel
theorem dX2_put_14 : decode cX2_put 14 = .ok (.iaload, 1) := by decide +kernel
theorem dX2_put_15 : decode cX2_put 15 = .ok (.ifCond .ge 9, 3) := by decide +kernel
theorem dX2_put_18 : decode cX2_put 18 = .ok (.aload_n 0, 1) := by decide +kernel
theorem dX2_put_19 : decode cX2_put 19 = .ok (.iconst 1, 1) := by decide +kernel
theorem dX2_put_20 : decode cX2_put 20 = .ok (.invokevirtual 90, 3) := by decide +kernel
theorem dX2_put_23 : decode cX2_put 23 = .ok (.ireturn, 1) := by decide +kernel
theorem dX2_put_24 : decode cX2_put 24 = .ok (.iload_n 2, 1) := by decide +kernel
theorem dX2_put_25 : decode cX2_put 25 = .ok (.iconst 0, 1) := by decide +kernel
theorem dX2_put_26 : decode cX2_put 26 = .ok (.aload_n 0, 1) := by decide +kernel
theorem dX2_put_27 : decode cX2_put 27 = .ok (.getfield 16, 3) := by decide +kernel
theorem dX2_put_30 : decode cX2_put 30 = .ok (.iload_n 1, 1) := by decide +kernel
theorem dX2_put_31 : decode cX2_put 31 = .ok (.iaload, 1) := by decide +kernel
theorem dX2_put_32 : decode cX2_put 32 = .ok (.iconst 1, 1) := by decide +kernel
theorem dX2_put_33 : decode cX2_put 33 = .ok (.isub, 1) := by decide +kernel
theorem dX2_put_34 : decode cX2_put 34 = .ok (.invokestatic 82, 3) := by decide +kernel
theorem dX2_put_37 : decode cX2_put 37 = .ok (.ifCond .ne 9, 3) := by decide +kernel
theorem dX2_put_40 : decode cX2_put 40 = .ok (.aload_n 0, 1) := by decide +kernel
theorem dX2_put_41 : decode cX2_put 41 = .ok (.iconst 2, 1) := by decide +kernel
theorem dX2_put_42 : decode cX2_put 42 = .ok (.invokevirtual 90, 3) := by decide +kernel
theorem dX2_put_45 : decode cX2_put 45 = .ok (.ireturn, 1) := by decide +kernel
theorem dX2_put_46 : decode cX2_put 46 = .ok (.aload_n 0, 1) := by decide +kernel
theorem dX2_put_47 : decode cX2_put 47 = .ok (.getfield 19, 3) := by decide +kernel
theorem dX2_put_50 : decode cX2_put 50 = .ok (.bipush 60, 2) := by decide +kernel
theorem dX2_put_52 : decode cX2_put 52 = .ok (.iload_n 1, 1) := by decide +kernel
theorem dX2_put_53 : decode cX2_put 53 = .ok (.imul, 1) := by decide +kernel
theorem dX2_put_54 : decode cX2_put 54 = .ok (.iload_n 2, 1) := by decide +kernel
theorem dX2_put_55 : decode cX2_put 55 = .ok (.iadd, 1) := by decide +kernel
theorem dX2_put_56 : decode cX2_put 56 = .ok (.iaload, 1) := by decide +kernel
theorem dX2_put_57 : decode cX2_put 57 = .ok (.istore 4, 2) := by decide +kernel
theorem dX2_put_59 : decode cX2_put 59 = .ok (.aload_n 0, 1) := by decide +kernel
theorem dX2_put_60 : decode cX2_put 60 = .ok (.getfield 19, 3) := by decide +kernel
theorem dX2_put_63 : decode cX2_put 63 = .ok (.bipush 60, 2) := by decide +kernel
theorem dX2_put_65 : decode cX2_put 65 = .ok (.iload_n 1, 1) := by decide +kernel
theorem dX2_put_66 : decode cX2_put 66 = .ok (.imul, 1) := by decide +kernel
theorem dX2_put_67 : decode cX2_put 67 = .ok (.iload_n 2, 1) := by decide +kernel
theorem dX2_put_68 : decode cX2_put 68 = .ok (.iadd, 1) := by decide +kernel
theorem dX2_put_69 : decode cX2_put 69 = .ok (.iload_n 3, 1) := by decide +kernel
theorem dX2_put_70 : decode cX2_put 70 = .ok (.bipush 24, 2) := by decide +kernel
theorem dX2_put_72 : decode cX2_put 72 = .ok (.ishl, 1) := by decide +kernel
theorem dX2_put_73 : decode cX2_put 73 = .ok (.bipush 24, 2) := by decide +kernel
theorem dX2_put_75 : decode cX2_put 75 = .ok (.ishr, 1) := by decide +kernel
theorem dX2_put_76 : decode cX2_put 76 = .ok (.iastore, 1) := by decide +kernel
theorem dX2_put_77 : decode cX2_put 77 = .ok (.iload 4, 2) := by decide +kernel
theorem dX2_put_79 : decode cX2_put 79 = .ok (.sipush 1000, 3) := by decide +kernel
theorem dX2_put_82 : decode cX2_put 82 = .ok (.iadd, 1) := by decide +kernel
theorem dX2_put_83 : decode cX2_put 83 = .ok (.ireturn, 1) := by decide +kernel
theorem dX2_kindBy_0 : decode cX2_kindBy 0 = .ok (.iload_n 0, 1) := by decide +kernel
theorem dX2_kindBy_1 : decode cX2_kindBy 1 = .ok (.tableswitch 107 100 119 #[105, 99, 103, 107, 107, 107, 107, 107, 107, 107, 107, 107, 107, 107, 107, 101, 95, 107, 107, 97], 95) := by decide +kernel
theorem dX2_kindBy_96 : decode cX2_kindBy 96 = .ok (.iconst 0, 1) := by decide +kernel
theorem dX2_kindBy_97 : decode cX2_kindBy 97 = .ok (.ireturn, 1) := by decide +kernel
theorem dX2_kindBy_98 : decode cX2_kindBy 98 = .ok (.iconst 1, 1) := by decide +kernel
theorem dX2_kindBy_99 : decode cX2_kindBy 99 = .ok (.ireturn, 1) := by decide +kernel
theorem dX2_kindBy_100 : decode cX2_kindBy 100 = .ok (.iconst 2, 1) := by decide +kernel
theorem dX2_kindBy_101 : decode cX2_kindBy 101 = .ok (.ireturn, 1) := by decide +kernel
theorem dX2_kindBy_102 : decode cX2_kindBy 102 = .ok (.iconst 3, 1) := by decide +kernel
theorem dX2_kindBy_103 : decode cX2_kindBy 103 = .ok (.ireturn, 1) := by decide +kernel
theorem dX2_kindBy_104 : decode cX2_kindBy 104 = .ok (.iconst 4, 1) := by decide +kernel
theorem dX2_kindBy_105 : decode cX2_kindBy 105 = .ok (.ireturn, 1) := by decide +kernel
theorem dX2_kindBy_106 : decode cX2_kindBy 106 = .ok (.iconst 5, 1) := by decide +kernel
theorem dX2_kindBy_107 : decode cX2_kindBy 107 = .ok (.ireturn, 1) := by decide +kernel
theorem dX2_kindBy_108 : decode cX2_kindBy 108 = .ok (.iconst (-1), 1) := by decide +kernel
theorem dX2_kindBy_109 : decode cX2_kindBy 109 = .ok (.ireturn, 1) := by decide +kernel
theorem dX2_reading_0 : decode cX2_reading 0 = .ok (.bipush 60, 2) := by decide +kernel
theorem dX2_reading_2 : decode cX2_reading 2 = .ok (.iload_n 1, 1) := by decide +kernel
theorem dX2_reading_3 : decode cX2_reading 3 = .ok (.imul, 1) := by decide +kernel
theorem dX2_reading_4 : decode cX2_reading 4 = .ok (.istore_n 2, 1) := by decide +kernel
theorem dX2_reading_5 : decode cX2_reading 5 = .ok (.aload_n 0, 1) := by decide +kernel
theorem dX2_reading_6 : decode cX2_reading 6 = .ok (.getfield 16, 3) := by decide +kernel
theorem dX2_reading_9 : decode cX2_reading 9 = .ok (.iload_n 1, 1) := by decide +kernel
theorem dX2_reading_10 : decode cX2_reading 10 = .ok (.iaload, 1) := by decide +kernel
theorem dX2_reading_11 : decode cX2_reading 11 = .ok (.istore_n 3, 1) := by decide +kernel
theorem dX2_reading_12 : decode cX2_reading 12 = .ok (.iconst 0, 1) := by decide +kernel
theorem dX2_reading_13 : decode cX2_reading 13 = .ok (.istore 4, 2) := by decide +kernel
theorem dX2_reading_15 : decode cX2_reading 15 = .ok (.aload_n 0, 1) := by decide +kernel
theorem dX2_reading_16 : decode cX2_reading 16 = .ok (.iconst 0, 1) := by decide +kernel
theorem dX2_reading_17 : decode cX2_reading 17 = .ok (.putfield 108, 3) := by decide +kernel
theorem dX2_reading_20 : decode cX2_reading 20 = .ok (.iload 4, 2) := by decide +kernel
theorem dX2_reading_22 : decode cX2_reading 22 = .ok (.iload_n 3, 1) := by decide +kernel
theorem dX2_reading_23 : decode cX2_reading 23 = .ok (.if_icmp .ge 196, 3) := by decide +kernel
theorem dX2_reading_26 : decode cX2_reading 26 = .ok (.aload_n 0, 1) := by decide +kernel
theorem dX2_reading_27 : decode cX2_reading 27 = .ok (.getfield 19, 3) := by decide +kernel
theorem dX2_reading_30 : decode cX2_reading 30 = .ok (.iload_n 2, 1) := by decide +kernel
theorem dX2_reading_31 : decode cX2_reading 31 = .ok (.iload 4, 2) := by decide +kernel
theorem dX2_reading_33 : decode cX2_reading 33 = .ok (.iadd, 1) := by decide +kernel
theorem dX2_reading_34 : decode cX2_reading 34 = .ok (.iaload, 1) := by decide +kernel
theorem dX2_reading_35 : decode cX2_reading 35 = .ok (.bipush 32, 2) := by decide +kernel
theorem dX2_reading_37 : decode cX2_reading 37 = .ok (.if_icmp .ne 9, 3) := by decide +kernel
theorem dX2_reading_40 : decode cX2_reading 40 = .ok (.iinc 4 1, 3) := by decide +kernel
theorem dX2_reading_43 : decode cX2_reading 43 = .ok (.goto (-23), 3) := by decide +kernel
theorem dX2_reading_46 : decode cX2_reading 46 = .ok (.aload_n 0, 1) := by decide +kernel
theorem dX2_reading_47 : decode cX2_reading 47 = .ok (.getfield 108, 3) := by decide +kernel
theorem dX2_reading_50 : decode cX2_reading 50 = .ok (.bipush 7, 2) := by decide +kernel
theorem dX2_reading_52 : decode cX2_reading 52 = .ok (.if_icmp .eq 18, 3) := by decide +kernel
theorem dX2_reading_55 : decode cX2_reading 55 = .ok (.aload_n 0, 1) := by decide +kernel
theorem dX2_reading_56 : decode cX2_reading 56 = .ok (.getfield 19, 3) := by decide +kernel
theorem dX2_reading_59 : decode cX2_reading 59 = .ok (.iload_n 2, 1) := by decide +kernel
theorem dX2_reading_60 : decode cX2_reading 60 = .ok (.iload 4, 2) := by decide +kernel
theorem dX2_reading_62 : decode cX2_reading 62 = .ok (.iadd, 1) := by decide +kernel
theorem dX2_reading_63 : decode cX2_reading 63 = .ok (.iaload, 1) := by decide +kernel
theorem dX2_reading_64 : decode cX2_reading 64 = .ok (.invokestatic 111, 3) := by decide +kernel
theorem dX2_reading_67 : decode cX2_reading 67 = .ok (.ifCond .ge 6, 3) := by decide +kernel
theorem dX2_reading_70 : decode cX2_reading 70 = .ok (.iload 4, 2) := by decide +kernel
theorem dX2_reading_72 : decode cX2_reading 72 = .ok (.ireturn, 1) := by decide +kernel
theorem dX2_reading_73 : decode cX2_reading 73 = .ok (.iconst 1, 1) := by decide +kernel
theorem dX2_reading_74 : decode cX2_reading 74 = .ok (.istore 5, 2) := by decide +kernel
theorem dX2_reading_76 : decode cX2_reading 76 = .ok (.iload 5, 2) := by decide +kernel
theorem dX2_reading_78 : decode cX2_reading 78 = .ok (.iconst 3, 1) := by decide +kernel
theorem dX2_reading_79 : decode cX2_reading 79 = .ok (.if_icmp .ge 57, 3) := by decide +kernel
theorem dX2_reading_82 : decode cX2_reading 82 = .ok (.iload 4, 2) := by decide +kernel
theorem dX2_reading_84 : decode cX2_reading 84 = .ok (.iload 5, 2) := by decide +kernel
theorem dX2_reading_86 : decode cX2_reading 86 = .ok (.iadd, 1) := by decide +kernel
theorem dX2_reading_87 : decode cX2_reading 87 = .ok (.iload_n 3, 1) := by decide +kernel
theorem dX2_reading_88 : decode cX2_reading 88 = .ok (.if_icmp .eq 36, 3) := by decide +kernel
theorem dX2_reading_91 : decode cX2_reading 91 = .ok (.aload_n 0, 1) := by decide +kernel
theorem dX2_reading_92 : decode cX2_reading 92 = .ok (.getfield 19, 3) := by decide +kernel
theorem dX2_reading_95 : decode cX2_reading 95 = .ok (.iload_n 2, 1) := by decide +kernel
theorem dX2_reading_96 : decode cX2_reading 96 = .ok (.iload 4, 2) := by decide +kernel
theorem dX2_reading_98 : decode cX2_reading 98 = .ok (.iadd, 1) := by decide +kernel
theorem dX2_reading_99 : decode cX2_reading 99 = .ok (.iload 5, 2) := by decide +kernel
theorem dX2_reading_101 : decode cX2_reading 101 = .ok (.iadd, 1) := by decide +kernel
theorem dX2_reading_102 : decode cX2_reading 102 = .ok (.iaload, 1) := by decide +kernel
theorem dX2_reading_103 : decode cX2_reading 103 = .ok (.iload 5, 2) := by decide +kernel
theorem dX2_reading_105 : decode cX2_reading 105 = .ok (.iconst 1, 1) := by decide +kernel
theorem dX2_reading_106 : decode cX2_reading 106 = .ok (.if_icmp .ne 8, 3) := by decide +kernel
theorem dX2_reading_109 : decode cX2_reading 109 = .ok (.bipush 50, 2) := by decide +kernel
theorem dX2_reading_111 : decode cX2_reading 111 = .ok (.goto 5, 3) := by decide +kernel
theorem dX2_reading_114 : decode cX2_reading 114 = .ok (.bipush 48, 2) := by decide +kernel
theorem dX2_reading_116 : decode cX2_reading 116 = .ok (.bipush 57, 2) := by decide +kernel
theorem dX2_reading_118 : decode cX2_reading 118 = .ok (.invokestatic 82, 3) := by decide +kernel
theorem dX2_reading_121 : decode cX2_reading 121 = .ok (.ifCond .ne 9, 3) := by decide +kernel
theorem dX2_reading_124 : decode cX2_reading 124 = .ok (.iload 4, 2) := by decide +kernel
theorem dX2_reading_126 : decode cX2_reading 126 = .ok (.iload 5, 2) := by decide +kernel
theorem dX2_reading_128 : decode cX2_reading 128 = .ok (.iadd, 1) := by decide +kernel
theorem dX2_reading_129 : decode cX2_reading 129 = .ok (.ireturn, 1) := by decide +kernel
theorem dX2_reading_130 : decode cX2_reading 130 = .ok (.iinc 5 1, 3) := by decide +kernel
theorem dX2_reading_133 : decode cX2_reading 133 = .ok (.goto (-57), 3) := by decide +kernel
theorem dX2_reading_136 : decode cX2_reading 136 = .ok (.aload_n 0, 1) := by decide +kernel
theorem dX2_reading_137 : decode cX2_reading 137 = .ok (.getfield 54, 3) := by decide +kernel
theorem dX2_reading_140 : decode cX2_reading 140 = .ok (.aload_n 0, 1) := by decide +kernel
theorem dX2_reading_141 : decode cX2_reading 141 = .ok (.getfield 108, 3) := by decide +kernel
theorem dX2_reading_144 : decode cX2_reading 144 = .ok (.aload_n 0, 1) := by decide +kernel
theorem dX2_reading_145 : decode cX2_reading 145 = .ok (.getfield 19, 3) := by decide +kernel
theorem dX2_reading_148 : decode cX2_reading 148 = .ok (.iload_n 2, 1) := by decide +kernel
theorem dX2_reading_149 : decode cX2_reading 149 = .ok (.iload 4, 2) := by decide +kernel
theorem dX2_reading_151 : decode cX2_reading 151 = .ok (.iadd, 1) := by decide +kernel
theorem dX2_reading_152 : decode cX2_reading 152 = .ok (.iaload, 1) := by decide +kernel
theorem dX2_reading_153 : decode cX2_reading 153 = .ok (.invokestatic 111, 3) := by decide +kernel
theorem dX2_reading_156 : decode cX2_reading 156 = .ok (.iastore, 1) := by decide +kernel
theorem dX2_reading_157 : decode cX2_reading 157 = .ok (.aload_n 0, 1) := by decide +kernel
theorem dX2_reading_158 : decode cX2_reading 158 = .ok (.getfield 57, 3) := by decide +kernel
theorem dX2_reading_161 : decode cX2_reading 161 = .ok (.aload_n 0, 1) := by decide +kernel
theorem dX2_reading_162 : decode cX2_reading 162 = .ok (.getfield 108, 3) := by decide +kernel
theorem dX2_reading_165 : decode cX2_reading 165 = .ok (.aload_n 0, 1) := by decide +kernel
theorem dX2_reading_166 : decode cX2_reading 166 = .ok (.getfield 19, 3) := by decide +kernel
theorem dX2_reading_169 : decode cX2_reading 169 = .ok (.iload_n 2, 1) := by decide +kernel
theorem dX2_reading_170 : decode cX2_reading 170 = .ok (.iload 4, 2) := by decide +kernel
theorem dX2_reading_172 : decode cX2_reading 172 = .ok (.iadd, 1) := by decide +kernel
theorem dX2_reading_173 : decode cX2_reading 173 = .ok (.iconst 1, 1) := by decide +kernel
theorem dX2_reading_174 : decode cX2_reading 174 = .ok (.iadd, 1) := by decide +kernel
theorem dX2_reading_175 : decode cX2_reading 175 = .ok (.iaload, 1) := by decide +kernel
theorem dX2_reading_176 : decode cX2_reading 176 = .ok (.bipush 48, 2) := by decide +kernel
theorem dX2_reading_178 : decode cX2_reading 178 = .ok (.isub, 1) := by decide +kernel
theorem dX2_reading_179 : decode cX2_reading 179 = .ok (.iastore, 1) := by decide +kernel
theorem dX2_reading_180 : decode cX2_reading 180 = .ok (.aload_n 0, 1) := by decide +kernel
theorem dX2_reading_181 : decode cX2_reading 181 = .ok (.getfield 60, 3) := by decide +kernel
theorem dX2_reading_184 : decode cX2_reading 184 = .ok (.aload_n 0, 1) := by decide +kernel
theorem dX2_reading_185 : decode cX2_reading 185 = .ok (.getfield 108, 3) := by decide +kernel
theorem dX2_reading_188 : decode cX2_reading 188 = .ok (.aload_n 0, 1) := by decide +kernel
theorem dX2_reading_189 : decode cX2_reading 189 = .ok (.getfield 19, 3) := by decide +kernel
theorem dX2_reading_192 : decode cX2_reading 192 = .ok (.iload_n 2, 1) := by decide +kernel
theorem dX2_reading_193 : decode cX2_reading 193 = .ok (.iload 4, 2) := by decide +kernel
theorem dX2_reading_195 : decode cX2_reading 195 = .ok (.iadd, 1) := by decide +kernel
theorem dX2_reading_196 : decode cX2_reading 196 = .ok (.iconst 2, 1) := by decide +kernel
theorem dX2_reading_197 : decode cX2_reading 197 = .ok (.iadd, 1) := by decide +kernel
theorem dX2_reading_198 : decode cX2_reading 198 = .ok (.iaload, 1) := by decide +kernel
theorem dX2_reading_199 : decode cX2_reading 199 = .ok (.bipush 48, 2) := by decide +kernel
theorem dX2_reading_201 : decode cX2_reading 201 = .ok (.isub, 1) := by decide +kernel
theorem dX2_reading_202 : decode cX2_reading 202 = .ok (.iastore, 1) := by decide +kernel
theorem dX2_reading_203 : decode cX2_reading 203 = .ok (.aload_n 0, 1) := by decide +kernel
theorem dX2_reading_204 : decode cX2_reading 204 = .ok (.dup, 1) := by decide +kernel
theorem dX2_reading_205 : decode cX2_reading 205 = .ok (.getfield 108, 3) := by decide +kernel
theorem dX2_reading_208 : decode cX2_reading 208 = .ok (.iconst 1, 1) := by decide +kernel
theorem dX2_reading_209 : decode cX2_reading 209 = .ok (.iadd, 1) := by decide +kernel
theorem dX2_reading_210 : decode cX2_reading 210 = .ok (.putfield 108, 3) := by decide +kernel
theorem dX2_reading_213 : decode cX2_reading 213 = .ok (.iinc 4 3, 3) := by decide +kernel
theorem dX2_reading_216 : decode cX2_reading 216 = .ok (.goto (-196), 3) := by decide +kernel
theorem dX2_reading_219 : decode cX2_reading 219 = .ok (.aload_n 0, 1) := by decide +kernel
theorem dX2_reading_220 : decode cX2_reading 220 = .ok (.getfield 108, 3) := by decide +kernel
theorem dX2_reading_223 : decode cX2_reading 223 = .ok (.iconst 2, 1) := by decide +kernel
theorem dX2_reading_224 : decode cX2_reading 224 = .ok (.if_icmp .ge 7, 3) := by decide +kernel
theorem dX2_reading_227 : decode cX2_reading 227 = .ok (.iload_n 3, 1) := by decide +kernel
theorem dX2_reading_228 : decode cX2_reading 228 = .ok (.goto 5, 3) := by decide +kernel
theorem dX2_reading_231 : decode cX2_reading 231 = .ok (.bipush (-9), 2) := by decide +kernel
theorem dX2_reading_233 : decode cX2_reading 233 = .ok (.ireturn, 1) := by decide +kernel
theorem dX2_fault_0 : decode cX2_fault 0 = .ok (.iload_n 1, 1) := by decide +kernel
theorem dX2_fault_1 : decode cX2_fault 1 = .ok (.invokestatic 105, 3) := by decide +kernel
theorem dX2_fault_4 : decode cX2_fault 4 = .ok (.ifCond .ne 5, 3) := by decide +kernel
theorem dX2_fault_7 : decode cX2_fault 7 = .ok (.iconst (-1), 1) := by decide +kernel
theorem dX2_fault_8 : decode cX2_fault 8 = .ok (.ireturn, 1) := by decide +kernel
theorem dX2_fault_9 : decode cX2_fault 9 = .ok (.aload_n 0, 1) := by decide +kernel
theorem dX2_fault_10 : decode cX2_fault 10 = .ok (.getfield 16, 3) := by decide +kernel
theorem dX2_fault_13 : decode cX2_fault 13 = .ok (.iload_n 1, 1) := by decide +kernel
theorem dX2_fault_14 : decode cX2_fault 14 = .ok (.iaload, 1) := by decide +kernel
theorem dX2_fault_15 : decode cX2_fault 15 = .ok (.ifCond .ge 11, 3) := by decide +kernel
theorem dX2_fault_18 : decode cX2_fault 18 = .ok (.aload_n 0, 1) := by decide +kernel
theorem dX2_fault_19 : decode cX2_fault 19 = .ok (.iconst 1, 1) := by decide +kernel
theorem dX2_fault_20 : decode cX2_fault 20 = .ok (.invokevirtual 90, 3) := by decide +kernel
theorem dX2_fault_23 : decode cX2_fault 23 = .ok (.goto 8, 3) := by decide +kernel
theorem dX2_fault_26 : decode cX2_fault 26 = .ok (.aload_n 0, 1) := by decide +kernel
theorem dX2_fault_27 : decode cX2_fault 27 = .ok (.iload_n 1, 1) := by decide +kernel
theorem dX2_fault_28 : decode cX2_fault 28 = .ok (.invokevirtual 114, 3) := by decide +kernel
theorem dX2_fault_31 : decode cX2_fault 31 = .ok (.ireturn, 1) := by decide +kernel
theorem dX2_store_0 : decode cX2_store 0 = .ok (.iload_n 1, 1) := by decide +kernel
theorem dX2_store_1 : decode cX2_store 1 = .ok (.invokestatic 105, 3) := by decide +kernel
theorem dX2_store_4 : decode cX2_store 4 = .ok (.ifCond .ne 5, 3) := by decide +kernel
theorem dX2_store_7 : decode cX2_store 7 = .ok (.iconst (-1), 1) := by decide +kernel
theorem dX2_store_8 : decode cX2_store 8 = .ok (.ireturn, 1) := by decide +kernel
theorem dX2_store_9 : decode cX2_store 9 = .ok (.aload_n 0, 1) := by decide +kernel
theorem dX2_store_10 : decode cX2_store 10 = .ok (.getfield 16, 3) := by decide +kernel
theorem dX2_store_13 : decode cX2_store 13 = .ok (.iload_n 1, 1) := by decide +kernel
theorem dX2_store_14 : decode cX2_store 14 = .ok (.iaload, 1) := by decide +kernel
theorem dX2_store_15 : decode cX2_store 15 = .ok (.ifCond .ge 9, 3) := by decide +kernel
theorem dX2_store_18 : decode cX2_store 18 = .ok (.aload_n 0, 1) := by decide +kernel
theorem dX2_store_19 : decode cX2_store 19 = .ok (.iconst 1, 1) := by decide +kernel
theorem dX2_store_20 : decode cX2_store 20 = .ok (.invokevirtual 90, 3) := by decide +kernel
theorem dX2_store_23 : decode cX2_store 23 = .ok (.ireturn, 1) := by decide +kernel
theorem dX2_store_24 : decode cX2_store 24 = .ok (.aload_n 0, 1) := by decide +kernel
theorem dX2_store_25 : decode cX2_store 25 = .ok (.iload_n 1, 1) := by decide +kernel
theorem dX2_store_26 : decode cX2_store 26 = .ok (.invokevirtual 114, 3) := by decide +kernel
theorem dX2_store_29 : decode cX2_store 29 = .ok (.bipush (-9), 2) := by decide +kernel
theorem dX2_store_31 : decode cX2_store 31 = .ok (.if_icmp .eq 6, 3) := by decide +kernel
theorem dX2_store_34 : decode cX2_store 34 = .ok (.bipush (-4), 2) := by decide +kernel
theorem dX2_store_36 : decode cX2_store 36 = .ok (.ireturn, 1) := by decide +kernel
theorem dX2_store_37 : decode cX2_store 37 = .ok (.aload_n 0, 1) := by decide +kernel
theorem dX2_store_38 : decode cX2_store 38 = .ok (.aload_n 0, 1) := by decide +kernel
theorem dX2_store_39 : decode cX2_store 39 = .ok (.getfield 108, 3) := by decide +kernel
theorem dX2_store_42 : decode cX2_store 42 = .ok (.putfield 79, 3) := by decide +kernel
theorem dX2_store_45 : decode cX2_store 45 = .ok (.aload_n 0, 1) := by decide +kernel
theorem dX2_store_46 : decode cX2_store 46 = .ok (.getfield 54, 3) := by decide +kernel
theorem dX2_store_49 : decode cX2_store 49 = .ok (.iconst 0, 1) := by decide +kernel
theorem dX2_store_50 : decode cX2_store 50 = .ok (.aload_n 0, 1) := by decide +kernel
theorem dX2_store_51 : decode cX2_store 51 = .ok (.getfield 22, 3) := by decide +kernel
theorem dX2_store_54 : decode cX2_store 54 = .ok (.iconst 0, 1) := by decide +kernel
theorem dX2_store_55 : decode cX2_store 55 = .ok (.bipush 7, 2) := by decide +kernel
theorem dX2_store_57 : decode cX2_store 57 = .ok (.invokestatic 117, 3) := by decide +kernel
theorem dX2_store_60 : decode cX2_store 60 = .ok (.aload_n 0, 1) := by decide +kernel
theorem dX2_store_61 : decode cX2_store 61 = .ok (.getfield 57, 3) := by decide +kernel
theorem dX2_store_64 : decode cX2_store 64 = .ok (.iconst 0, 1) := by decide +kernel
theorem dX2_store_65 : decode cX2_store 65 = .ok (.aload_n 0, 1) := by decide +kernel
theorem dX2_store_66 : decode cX2_store 66 = .ok (.getfield 25, 3) := by decide +kernel
theorem dX2_store_69 : decode cX2_store 69 = .ok (.iconst 0, 1) := by decide +kernel
theorem dX2_store_70 : decode cX2_store 70 = .ok (.bipush 7, 2) := by decide +kernel
theorem dX2_store_72 : decode cX2_store 72 = .ok (.invokestatic 117, 3) := by decide +kernel
theorem dX2_store_75 : decode cX2_store 75 = .ok (.aload_n 0, 1) := by decide +kernel
theorem dX2_store_76 : decode cX2_store 76 = .ok (.getfield 60, 3) := by decide +kernel
theorem dX2_store_79 : decode cX2_store 79 = .ok (.iconst 0, 1) := by decide +kernel
theorem dX2_store_80 : decode cX2_store 80 = .ok (.aload_n 0, 1) := by decide +kernel
theorem dX2_store_81 : decode cX2_store 81 = .ok (.getfield 28, 3) := by decide +kernel
theorem dX2_store_84 : decode cX2_store 84 = .ok (.iconst 0, 1) := by decide +kernel
theorem dX2_store_85 : decode cX2_store 85 = .ok (.bipush 7, 2) := by decide +kernel
theorem dX2_store_87 : decode cX2_store 87 = .ok (.invokestatic 117, 3) := by decide +kernel
theorem dX2_store_90 : decode cX2_store 90 = .ok (.iconst 0, 1) := by decide +kernel
theorem dX2_store_91 : decode cX2_store 91 = .ok (.istore_n 2, 1) := by decide +kernel
theorem dX2_store_92 : decode cX2_store 92 = .ok (.iload_n 2, 1) := by decide +kernel
theorem dX2_store_93 : decode cX2_store 93 = .ok (.bipush 15, 2) := by decide +kernel
theorem dX2_store_95 : decode cX2_store 95 = .ok (.if_icmp .ge 29, 3) := by decide +kernel
theorem dX2_store_98 : decode cX2_store 98 = .ok (.aload_n 0, 1) := by decide +kernel
theorem dX2_store_99 : decode cX2_store 99 = .ok (.getfield 31, 3) := by decide +kernel
theorem dX2_store_102 : decode cX2_store 102 = .ok (.iload_n 2, 1) := by decide +kernel
theorem dX2_store_103 : decode cX2_store 103 = .ok (.iload_n 2, 1) := by decide +kernel
theorem dX2_store_104 : decode cX2_store 104 = .ok (.bipush 8, 2) := by decide +kernel
theorem dX2_store_106 : decode cX2_store 106 = .ok (.if_icmp .ge 7, 3) := by decide +kernel
theorem dX2_store_109 : decode cX2_store 109 = .ok (.iconst 0, 1) := by decide +kernel
theorem dX2_store_110 : decode cX2_store 110 = .ok (.goto 7, 3) := by decide +kernel
theorem dX2_store_113 : decode cX2_store 113 = .ok (.iload_n 2, 1) := by decide +kernel
theorem dX2_store_114 : decode cX2_store 114 = .ok (.bipush 8, 2) := by decide +kernel
theorem dX2_store_116 : decode cX2_store 116 = .ok (.isub, 1) := by decide +kernel
theorem dX2_store_117 : decode cX2_store 117 = .ok (.iastore, 1) := by decide +kernel
theorem dX2_store_118 : decode cX2_store 118 = .ok (.iinc 2 1, 3) := by decide +kernel
theorem dX2_store_121 : decode cX2_store 121 = .ok (.goto (-29), 3) := by decide +kernel
theorem dX2_store_124 : decode cX2_store 124 = .ok (.aload_n 0, 1) := by decide +kernel
theorem dX2_store_125 : decode cX2_store 125 = .ok (.iconst 0, 1) := by decide +kernel
theorem dX2_store_126 : decode cX2_store 126 = .ok (.putfield 121, 3) := by decide +kernel
theorem dX2_store_129 : decode cX2_store 129 = .ok (.iconst 0, 1) := by decide +kernel
theorem dX2_store_130 : decode cX2_store 130 = .ok (.istore_n 2, 1) := by decide +kernel
theorem dX2_store_131 : decode cX2_store 131 = .ok (.iload_n 2, 1) := by decide +kernel
theorem dX2_store_132 : decode cX2_store 132 = .ok (.iconst 3, 1) := by decide +kernel
theorem dX2_store_133 : decode cX2_store 133 = .ok (.if_icmp .ge 16, 3) := by decide +kernel
theorem dX2_store_136 : decode cX2_store 136 = .ok (.aload_n 0, 1) := by decide +kernel
theorem dX2_store_137 : decode cX2_store 137 = .ok (.getfield 43, 3) := by decide +kernel
theorem dX2_store_140 : decode cX2_store 140 = .ok (.iload_n 2, 1) := by decide +kernel
theorem dX2_store_141 : decode cX2_store 141 = .ok (.iconst 0, 1) := by decide +kernel
theorem dX2_store_142 : decode cX2_store 142 = .ok (.bastore, 1) := by decide +kernel
theorem dX2_store_143 : decode cX2_store 143 = .ok (.iinc 2 1, 3) := by decide +kernel
theorem dX2_store_146 : decode cX2_store 146 = .ok (.goto (-15), 3) := by decide +kernel
theorem dX2_store_149 : decode cX2_store 149 = .ok (.aload_n 0, 1) := by decide +kernel
theorem dX2_store_150 : decode cX2_store 150 = .ok (.getfield 79, 3) := by decide +kernel
theorem dX2_store_153 : decode cX2_store 153 = .ok (.ireturn, 1) := by decide +kernel
theorem dX2_isReady_0 : decode cX2_isReady 0 = .ok (.aload_n 0, 1) := by decide +kernel
theorem dX2_isReady_1 : decode cX2_isReady 1 = .ok (.getfield 22, 3) := by decide +kernel
theorem dX2_isReady_4 : decode cX2_isReady 4 = .ok (.iload_n 2, 1) := by decide +kernel
theorem dX2_isReady_5 : decode cX2_isReady 5 = .ok (.iaload, 1) := by decide +kernel
theorem dX2_isReady_6 : decode cX2_isReady 6 = .ok (.iconst 3, 1) := by decide +kernel
theorem dX2_isReady_7 : decode cX2_isReady 7 = .ok (.if_icmp .ne 11, 3) := by decide +kernel
theorem dX2_isReady_10 : decode cX2_isReady 10 = .ok (.aload_n 1, 1) := by decide +kernel
theorem dX2_isReady_11 : decode cX2_isReady 11 = .ok (.iconst 0, 1) := by decide +kernel
theorem dX2_isReady_12 : decode cX2_isReady 12 = .ok (.iaload, 1) := by decide +kernel
theorem dX2_isReady_13 : decode cX2_isReady 13 = .ok (.iconst 2, 1) := by decide +kernel
theorem dX2_isReady_14 : decode cX2_isReady 14 = .ok (.irem, 1) := by decide +kernel
theorem dX2_isReady_15 : decode cX2_isReady 15 = .ok (.ifCond .ne 7, 3) := by decide +kernel
theorem dX2_isReady_18 : decode cX2_isReady 18 = .ok (.iconst 1, 1) := by decide +kernel
theorem dX2_isReady_19 : decode cX2_isReady 19 = .ok (.goto 4, 3) := by decide +kernel
theorem dX2_isReady_22 : decode cX2_isReady 22 = .ok (.iconst 0, 1) := by decide +kernel
theorem dX2_isReady_23 : decode cX2_isReady 23 = .ok (.ireturn, 1) := by decide +kernel
theorem dX2_isMarked_0 : decode cX2_isMarked 0 = .ok (.aload_n 1, 1) := by decide +kernel
theorem dX2_isMarked_1 : decode cX2_isMarked 1 = .ok (.iconst 0, 1) := by decide +kernel
theorem dX2_isMarked_2 : decode cX2_isMarked 2 = .ok (.iaload, 1) := by decide +kernel
theorem dX2_isMarked_3 : decode cX2_isMarked 3 = .ok (.aload_n 0, 1) := by decide +kernel
theorem dX2_isMarked_4 : decode cX2_isMarked 4 = .ok (.getfield 28, 3) := by decide +kernel
theorem dX2_isMarked_7 : decode cX2_isMarked 7 = .ok (.iload_n 2, 1) := by decide +kernel
theorem dX2_isMarked_8 : decode cX2_isMarked 8 = .ok (.iaload, 1) := by decide +kernel
theorem dX2_isMarked_9 : decode cX2_isMarked 9 = .ok (.iconst 2, 1) := by decide +kernel
theorem dX2_isMarked_10 : decode cX2_isMarked 10 = .ok (.iadd, 1) := by decide +kernel
theorem dX2_isMarked_11 : decode cX2_isMarked 11 = .ok (.irem, 1) := by decide +kernel
theorem dX2_isMarked_12 : decode cX2_isMarked 12 = .ok (.ifCond .ne 7, 3) := by decide +kernel
theorem dX2_isMarked_15 : decode cX2_isMarked 15 = .ok (.iconst 1, 1) := by decide +kernel
theorem dX2_isMarked_16 : decode cX2_isMarked 16 = .ok (.goto 4, 3) := by decide +kernel
theorem dX2_isMarked_19 : decode cX2_isMarked 19 = .ok (.iconst 0, 1) := by decide +kernel
theorem dX2_isMarked_20 : decode cX2_isMarked 20 = .ok (.ireturn, 1) := by decide +kernel
theorem dX2_sentBy_0 : decode cX2_sentBy 0 = .ok (.aload_n 1, 1) := by decide +kernel
theorem dX2_sentBy_1 : decode cX2_sentBy 1 = .ok (.iconst 1, 1) := by decide +kernel
theorem dX2_sentBy_2 : decode cX2_sentBy 2 = .ok (.iload_n 2, 1) := by decide +kernel
theorem dX2_sentBy_3 : decode cX2_sentBy 3 = .ok (.iadd, 1) := by decide +kernel
theorem dX2_sentBy_4 : decode cX2_sentBy 4 = .ok (.iaload, 1) := by decide +kernel
theorem dX2_sentBy_5 : decode cX2_sentBy 5 = .ok (.aload_n 0, 1) := by decide +kernel
theorem dX2_sentBy_6 : decode cX2_sentBy 6 = .ok (.getfield 25, 3) := by decide +kernel
theorem dX2_sentBy_9 : decode cX2_sentBy 9 = .ok (.iload_n 2, 1) := by decide +kernel
theorem dX2_sentBy_10 : decode cX2_sentBy 10 = .ok (.iaload, 1) := by decide +kernel
theorem dX2_sentBy_11 : decode cX2_sentBy 11 = .ok (.iconst 1, 1) := by decide +kernel
theorem dX2_sentBy_12 : decode cX2_sentBy 12 = .ok (.isub, 1) := by decide +kernel
theorem dX2_sentBy_13 : decode cX2_sentBy 13 = .ok (.ishr, 1) := by decide +kernel
theorem dX2_sentBy_14 : decode cX2_sentBy 14 = .ok (.iconst 1, 1) := by decide +kernel
theorem dX2_sentBy_15 : decode cX2_sentBy 15 = .ok (.iand, 1) := by decide +kernel
theorem dX2_sentBy_16 : decode cX2_sentBy 16 = .ok (.istore 5, 2) := by decide +kernel
theorem dX2_sentBy_18 : decode cX2_sentBy 18 = .ok (.aload_n 0, 1) := by decide +kernel
theorem dX2_sentBy_19 : decode cX2_sentBy 19 = .ok (.aload_n 1, 1) := by decide +kernel
theorem dX2_sentBy_20 : decode cX2_sentBy 20 = .ok (.iload_n 2, 1) := by decide +kernel
theorem dX2_sentBy_21 : decode cX2_sentBy 21 = .ok (.invokevirtual 124, 3) := by decide +kernel
theorem dX2_sentBy_24 : decode cX2_sentBy 24 = .ok (.ifCond .eq 13, 3) := by decide +kernel
theorem dX2_sentBy_27 : decode cX2_sentBy 27 = .ok (.iload 5, 2) := by decide +kernel
theorem dX2_sentBy_29 : decode cX2_sentBy 29 = .ok (.iconst 1, 1) := by decide +kernel
theorem dX2_sentBy_30 : decode cX2_sentBy 30 = .ok (.if_icmp .ne 7, 3) := by decide +kernel
theorem dX2_sentBy_33 : decode cX2_sentBy 33 = .ok (.iconst 1, 1) := by decide +kernel
theorem dX2_sentBy_34 : decode cX2_sentBy 34 = .ok (.goto 5, 3) := by decide +kernel
theorem dX2_sentBy_37 : decode cX2_sentBy 37 = .ok (.iload 4, 2) := by decide +kernel
theorem dX2_sentBy_39 : decode cX2_sentBy 39 = .ok (.istore 6, 2) := by decide +kernel
theorem dX2_sentBy_41 : decode cX2_sentBy 41 = .ok (.iload_n 3, 1) := by decide +kernel
theorem dX2_sentBy_42 : decode cX2_sentBy 42 = .ok (.tableswitch 92 1 5 #[34, 50, 92, 53, 72], 34) := by decide +kernel
theorem dX2_sentBy_76 : decode cX2_sentBy 76 = .ok (.aload_n 0, 1) := by decide +kernel
theorem dX2_sentBy_77 : decode cX2_sentBy 77 = .ok (.aload_n 1, 1) := by decide +kernel
theorem dX2_sentBy_78 : decode cX2_sentBy 78 = .ok (.iload_n 2, 1) := by decide +kernel
theorem dX2_sentBy_79 : decode cX2_sentBy 79 = .ok (.invokevirtual 124, 3) := by decide +kernel
theorem dX2_sentBy_82 : decode cX2_sentBy 82 = .ok (.ifCond .eq 7, 3) := by decide +kernel
theorem dX2_sentBy_85 : decode cX2_sentBy 85 = .ok (.iconst 0, 1) := by decide +kernel
theorem dX2_sentBy_86 : decode cX2_sentBy 86 = .ok (.goto 5, 3) := by decide +kernel
theorem dX2_sentBy_89 : decode cX2_sentBy 89 = .ok (.iload 4, 2) := by decide +kernel
theorem dX2_sentBy_91 : decode cX2_sentBy 91 = .ok (.ireturn, 1) := by decide +kernel
theorem dX2_sentBy_92 : decode cX2_sentBy 92 = .ok (.iload 6, 2) := by decide +kernel
theorem dX2_sentBy_94 : decode cX2_sentBy 94 = .ok (.ireturn, 1) := by decide +kernel
theorem dX2_sentBy_95 : decode cX2_sentBy 95 = .ok (.aload_n 0, 1) := by decide +kernel
theorem dX2_sentBy_96 : decode cX2_sentBy 96 = .ok (.aload_n 1, 1) := by decide +kernel
theorem dX2_sentBy_97 : decode cX2_sentBy 97 = .ok (.iload_n 2, 1) := by decide +kernel
theorem dX2_sentBy_98 : decode cX2_sentBy 98 = .ok (.invokevirtual 124, 3) := by decide +kernel
theorem dX2_sentBy_101 : decode cX2_sentBy 101 = .ok (.ifCond .eq 10, 3) := by decide +kernel
theorem dX2_sentBy_104 : decode cX2_sentBy 104 = .ok (.iconst 1, 1) := by decide +kernel
theorem dX2_sentBy_105 : decode cX2_sentBy 105 = .ok (.iload 4, 2) := by decide +kernel
theorem dX2_sentBy_107 : decode cX2_sentBy 107 = .ok (.isub, 1) := by decide +kernel
theorem dX2_sentBy_108 : decode cX2_sentBy 108 = .ok (.goto 5, 3) := by decide +kernel
theorem dX2_sentBy_111 : decode cX2_sentBy 111 = .ok (.iload 4, 2) := by decide +kernel
theorem dX2_sentBy_113 : decode cX2_sentBy 113 = .ok (.ireturn, 1) := by decide +kernel
theorem dX2_sentBy_114 : decode cX2_sentBy 114 = .ok (.aload_n 1, 1) := by decide +kernel
theorem dX2_sentBy_115 : decode cX2_sentBy 115 = .ok (.iconst 0, 1) := by decide +kernel
theorem dX2_sentBy_116 : decode cX2_sentBy 116 = .ok (.iaload, 1) := by decide +kernel
theorem dX2_sentBy_117 : decode cX2_sentBy 117 = .ok (.iconst 3, 1) := by decide +kernel
theorem dX2_sentBy_118 : decode cX2_sentBy 118 = .ok (.irem, 1) := by decide +kernel
theorem dX2_sentBy_119 : decode cX2_sentBy 119 = .ok (.ifCond .ne 12, 3) := by decide +kernel
theorem dX2_sentBy_122 : decode cX2_sentBy 122 = .ok (.iload 5, 2) := by decide +kernel
theorem dX2_sentBy_124 : decode cX2_sentBy 124 = .ok (.ifCond .ne 7, 3) := by decide +kernel
theorem dX2_sentBy_127 : decode cX2_sentBy 127 = .ok (.iconst 0, 1) := by decide +kernel
theorem dX2_sentBy_128 : decode cX2_sentBy 128 = .ok (.goto 5, 3) := by decide +kernel
theorem dX2_sentBy_131 : decode cX2_sentBy 131 = .ok (.iload 6, 2) := by decide +kernel
theorem dX2_sentBy_133 : decode cX2_sentBy 133 = .ok (.ireturn, 1) := by decide +kernel
theorem dX2_sentBy_134 : decode cX2_sentBy 134 = .ok (.iload 4, 2) := by decide +kernel
theorem dX2_sentBy_136 : decode cX2_sentBy 136 = .ok (.ireturn, 1) := by decide +kernel
theorem dX2_outOf_0 : decode cX2_outOf 0 = .ok (.aload_n 0, 1) := by decide +kernel
theorem dX2_outOf_1 : decode cX2_outOf 1 = .ok (.aload_n 1, 1) := by decide +kernel
theorem dX2_outOf_2 : decode cX2_outOf 2 = .ok (.iload_n 2, 1) := by decide +kernel
theorem dX2_outOf_3 : decode cX2_outOf 3 = .ok (.invokevirtual 128, 3) := by decide +kernel
theorem dX2_outOf_6 : decode cX2_outOf 6 = .ok (.ifCond .eq 13, 3) := by decide +kernel
theorem dX2_outOf_9 : decode cX2_outOf 9 = .ok (.aload_n 1, 1) := by decide +kernel
theorem dX2_outOf_10 : decode cX2_outOf 10 = .ok (.iconst 1, 1) := by decide +kernel
theorem dX2_outOf_11 : decode cX2_outOf 11 = .ok (.iload_n 2, 1) := by decide +kernel
theorem dX2_outOf_12 : decode cX2_outOf 12 = .ok (.iadd, 1) := by decide +kernel
theorem dX2_outOf_13 : decode cX2_outOf 13 = .ok (.iaload, 1) := by decide +kernel
theorem dX2_outOf_14 : decode cX2_outOf 14 = .ok (.iconst 1, 1) := by decide +kernel
theorem dX2_outOf_15 : decode cX2_outOf 15 = .ok (.iand, 1) := by decide +kernel
theorem dX2_outOf_16 : decode cX2_outOf 16 = .ok (.goto 4, 3) := by decide +kernel
theorem dX2_outOf_19 : decode cX2_outOf 19 = .ok (.iconst 0, 1) := by decide +kernel
theorem dX2_outOf_20 : decode cX2_outOf 20 = .ok (.ireturn, 1) := by decide +kernel
theorem dX2_fromWhich_0 : decode cX2_fromWhich 0 = .ok (.iconst 0, 1) := by decide +kernel
theorem dX2_fromWhich_1 : decode cX2_fromWhich 1 = .ok (.istore_n 3, 1) := by decide +kernel
theorem dX2_fromWhich_2 : decode cX2_fromWhich 2 = .ok (.iconst 0, 1) := by decide +kernel
theorem dX2_fromWhich_3 : decode cX2_fromWhich 3 = .ok (.istore 4, 2) := by decide +kernel
theorem dX2_fromWhich_5 : decode cX2_fromWhich 5 = .ok (.iload 4, 2) := by decide +kernel
theorem dX2_fromWhich_7 : decode cX2_fromWhich 7 = .ok (.aload_n 0, 1) := by decide +kernel
theorem dX2_fromWhich_8 : decode cX2_fromWhich 8 = .ok (.getfield 79, 3) := by decide +kernel
theorem dX2_fromWhich_11 : decode cX2_fromWhich 11 = .ok (.if_icmp .ge 27, 3) := by decide +kernel
theorem dX2_fromWhich_14 : decode cX2_fromWhich 14 = .ok (.aload_n 1, 1) := by decide +kernel
theorem dX2_fromWhich_15 : decode cX2_fromWhich 15 = .ok (.bipush 8, 2) := by decide +kernel
theorem dX2_fromWhich_17 : decode cX2_fromWhich 17 = .ok (.iload 4, 2) := by decide +kernel
theorem dX2_fromWhich_19 : decode cX2_fromWhich 19 = .ok (.iadd, 1) := by decide +kernel
theorem dX2_fromWhich_20 : decode cX2_fromWhich 20 = .ok (.iaload, 1) := by decide +kernel
theorem dX2_fromWhich_21 : decode cX2_fromWhich 21 = .ok (.iload_n 2, 1) := by decide +kernel
theorem dX2_fromWhich_22 : decode cX2_fromWhich 22 = .ok (.if_icmp .ne 8, 3) := by decide +kernel
theorem dX2_fromWhich_25 : decode cX2_fromWhich 25 = .ok (.iload 4, 2) := by decide +kernel
theorem dX2_fromWhich_27 : decode cX2_fromWhich 27 = .ok (.goto 4, 3) := by decide +kernel
theorem dX2_fromWhich_30 : decode cX2_fromWhich 30 = .ok (.iload_n 3, 1) := by decide +kernel
theorem dX2_fromWhich_31 : decode cX2_fromWhich 31 = .ok (.istore_n 3, 1) := by decide +kernel
theorem dX2_fromWhich_32 : decode cX2_fromWhich 32 = .ok (.iinc 4 1, 3) := by decide +kernel
theorem dX2_fromWhich_35 : decode cX2_fromWhich 35 = .ok (.goto (-30), 3) := by decide +kernel
theorem dX2_fromWhich_38 : decode cX2_fromWhich 38 = .ok (.iload_n 3, 1) := by decide +kernel
theorem dX2_fromWhich_39 : decode cX2_fromWhich 39 = .ok (.ireturn, 1) := by decide +kernel
theorem dX2_tickOn_0 : decode cX2_tickOn 0 = .ok (.iconst 0, 1) := by decide +kernel
theorem dX2_tickOn_1 : decode cX2_tickOn 1 = .ok (.istore_n 2, 1) := by decide +kernel
theorem dX2_tickOn_2 : decode cX2_tickOn 2 = .ok (.iload_n 2, 1) := by decide +kernel
theorem dX2_tickOn_3 : decode cX2_tickOn 3 = .ok (.aload_n 0, 1) := by decide +kernel
theorem dX2_tickOn_4 : decode cX2_tickOn 4 = .ok (.getfield 79, 3) := by decide +kernel
theorem dX2_tickOn_7 : decode cX2_tickOn 7 = .ok (.if_icmp .ge 74, 3) := by decide +kernel
theorem dX2_tickOn_10 : decode cX2_tickOn 10 = .ok (.aload_n 0, 1) := by decide +kernel
theorem dX2_tickOn_11 : decode cX2_tickOn 11 = .ok (.aload_n 1, 1) := by decide +kernel
theorem dX2_tickOn_12 : decode cX2_tickOn 12 = .ok (.iload_n 2, 1) := by decide +kernel
theorem dX2_tickOn_13 : decode cX2_tickOn 13 = .ok (.aload_n 0, 1) := by decide +kernel
theorem dX2_tickOn_14 : decode cX2_tickOn 14 = .ok (.getfield 22, 3) := by decide +kernel
theorem dX2_tickOn_17 : decode cX2_tickOn 17 = .ok (.iload_n 2, 1) := by decide +kernel
theorem dX2_tickOn_18 : decode cX2_tickOn 18 = .ok (.iaload, 1) := by decide +kernel
theorem dX2_tickOn_19 : decode cX2_tickOn 19 = .ok (.aload_n 0, 1) := by decide +kernel
theorem dX2_tickOn_20 : decode cX2_tickOn 20 = .ok (.aload_n 1, 1) := by decide +kernel
theorem dX2_tickOn_21 : decode cX2_tickOn 21 = .ok (.aload_n 0, 1) := by decide +kernel
theorem dX2_tickOn_22 : decode cX2_tickOn 22 = .ok (.aload_n 1, 1) := by decide +kernel
theorem dX2_tickOn_23 : decode cX2_tickOn 23 = .ok (.iload_n 2, 1) := by decide +kernel
theorem dX2_tickOn_24 : decode cX2_tickOn 24 = .ok (.invokevirtual 131, 3) := by decide +kernel
theorem dX2_tickOn_27 : decode cX2_tickOn 27 = .ok (.invokevirtual 135, 3) := by decide +kernel
theorem dX2_tickOn_30 : decode cX2_tickOn 30 = .ok (.invokevirtual 138, 3) := by decide +kernel
theorem dX2_tickOn_33 : decode cX2_tickOn 33 = .ok (.istore_n 3, 1) := by decide +kernel
theorem dX2_tickOn_34 : decode cX2_tickOn 34 = .ok (.aload_n 0, 1) := by decide +kernel
theorem dX2_tickOn_35 : decode cX2_tickOn 35 = .ok (.getfield 63, 3) := by decide +kernel
theorem dX2_tickOn_38 : decode cX2_tickOn 38 = .ok (.iload_n 2, 1) := by decide +kernel
theorem dX2_tickOn_39 : decode cX2_tickOn 39 = .ok (.aload_n 0, 1) := by decide +kernel
theorem dX2_tickOn_40 : decode cX2_tickOn 40 = .ok (.aload_n 1, 1) := by decide +kernel
theorem dX2_tickOn_41 : decode cX2_tickOn 41 = .ok (.iload_n 2, 1) := by decide +kernel
theorem dX2_tickOn_42 : decode cX2_tickOn 42 = .ok (.invokevirtual 128, 3) := by decide +kernel
theorem dX2_tickOn_45 : decode cX2_tickOn 45 = .ok (.ifCond .eq 24, 3) := by decide +kernel
theorem dX2_tickOn_48 : decode cX2_tickOn 48 = .ok (.aload_n 1, 1) := by decide +kernel
theorem dX2_tickOn_49 : decode cX2_tickOn 49 = .ok (.iconst 1, 1) := by decide +kernel
theorem dX2_tickOn_50 : decode cX2_tickOn 50 = .ok (.iload_n 2, 1) := by decide +kernel
theorem dX2_tickOn_51 : decode cX2_tickOn 51 = .ok (.iadd, 1) := by decide +kernel
theorem dX2_tickOn_52 : decode cX2_tickOn 52 = .ok (.iaload, 1) := by decide +kernel
theorem dX2_tickOn_53 : decode cX2_tickOn 53 = .ok (.iconst 1, 1) := by decide +kernel
theorem dX2_tickOn_54 : decode cX2_tickOn 54 = .ok (.ishr, 1) := by decide +kernel
theorem dX2_tickOn_55 : decode cX2_tickOn 55 = .ok (.iload_n 3, 1) := by decide +kernel
theorem dX2_tickOn_56 : decode cX2_tickOn 56 = .ok (.aload_n 0, 1) := by decide +kernel
theorem dX2_tickOn_57 : decode cX2_tickOn 57 = .ok (.getfield 25, 3) := by decide +kernel
theorem dX2_tickOn_60 : decode cX2_tickOn 60 = .ok (.iload_n 2, 1) := by decide +kernel
theorem dX2_tickOn_61 : decode cX2_tickOn 61 = .ok (.iaload, 1) := by decide +kernel
theorem dX2_tickOn_62 : decode cX2_tickOn 62 = .ok (.iconst 1, 1) := by decide +kernel
theorem dX2_tickOn_63 : decode cX2_tickOn 63 = .ok (.isub, 1) := by decide +kernel
theorem dX2_tickOn_64 : decode cX2_tickOn 64 = .ok (.ishl, 1) := by decide +kernel
theorem dX2_tickOn_65 : decode cX2_tickOn 65 = .ok (.ior, 1) := by decide +kernel
theorem dX2_tickOn_66 : decode cX2_tickOn 66 = .ok (.goto 8, 3) := by decide +kernel
theorem dX2_tickOn_69 : decode cX2_tickOn 69 = .ok (.aload_n 1, 1) := by decide +kernel
theorem dX2_tickOn_70 : decode cX2_tickOn 70 = .ok (.iconst 1, 1) := by decide +kernel
theorem dX2_tickOn_71 : decode cX2_tickOn 71 = .ok (.iload_n 2, 1) := by decide +kernel
theorem dX2_tickOn_72 : decode cX2_tickOn 72 = .ok (.iadd, 1) := by decide +kernel
theorem dX2_tickOn_73 : decode cX2_tickOn 73 = .ok (.iaload, 1) := by decide +kernel
theorem dX2_tickOn_74 : decode cX2_tickOn 74 = .ok (.iastore, 1) := by decide +kernel
theorem dX2_tickOn_75 : decode cX2_tickOn 75 = .ok (.iinc 2 1, 3) := by decide +kernel
theorem dX2_tickOn_78 : decode cX2_tickOn 78 = .ok (.goto (-76), 3) := by decide +kernel
theorem dX2_tickOn_81 : decode cX2_tickOn 81 = .ok (.aload_n 0, 1) := by decide +kernel
theorem dX2_tickOn_82 : decode cX2_tickOn 82 = .ok (.getfield 63, 3) := by decide +kernel
theorem dX2_tickOn_85 : decode cX2_tickOn 85 = .ok (.iconst 0, 1) := by decide +kernel
theorem dX2_tickOn_86 : decode cX2_tickOn 86 = .ok (.aload_n 1, 1) := by decide +kernel
theorem dX2_tickOn_87 : decode cX2_tickOn 87 = .ok (.iconst 1, 1) := by decide +kernel
theorem dX2_tickOn_88 : decode cX2_tickOn 88 = .ok (.aload_n 0, 1) := by decide +kernel
theorem dX2_tickOn_89 : decode cX2_tickOn 89 = .ok (.getfield 79, 3) := by decide +kernel
theorem dX2_tickOn_92 : decode cX2_tickOn 92 = .ok (.invokestatic 117, 3) := by decide +kernel
theorem dX2_tickOn_95 : decode cX2_tickOn 95 = .ok (.aload_n 1, 1) := by decide +kernel
theorem dX2_tickOn_96 : decode cX2_tickOn 96 = .ok (.iconst 0, 1) := by decide +kernel
theorem dX2_tickOn_97 : decode cX2_tickOn 97 = .ok (.dup2, 1) := by decide +kernel
theorem dX2_tickOn_98 : decode cX2_tickOn 98 = .ok (.iaload, 1) := by decide +kernel
theorem dX2_tickOn_99 : decode cX2_tickOn 99 = .ok (.iconst 1, 1) := by decide +kernel
theorem dX2_tickOn_100 : decode cX2_tickOn 100 = .ok (.iadd, 1) := by decide +kernel
theorem dX2_tickOn_101 : decode cX2_tickOn 101 = .ok (.iastore, 1) := by decide +kernel
theorem dX2_tickOn_102 : decode cX2_tickOn 102 = .ok (.return_, 1) := by decide +kernel
theorem dX2_pulses_0 : decode cX2_pulses 0 = .ok (.iconst 0, 1) := by decide +kernel
theorem dX2_pulses_1 : decode cX2_pulses 1 = .ok (.istore_n 2, 1) := by decide +kernel
theorem dX2_pulses_2 : decode cX2_pulses 2 = .ok (.iconst 0, 1) := by decide +kernel
theorem dX2_pulses_3 : decode cX2_pulses 3 = .ok (.istore_n 3, 1) := by decide +kernel
theorem dX2_pulses_4 : decode cX2_pulses 4 = .ok (.iload_n 3, 1) := by decide +kernel
theorem dX2_pulses_5 : decode cX2_pulses 5 = .ok (.aload_n 0, 1) := by decide +kernel
theorem dX2_pulses_6 : decode cX2_pulses 6 = .ok (.getfield 79, 3) := by decide +kernel
theorem dX2_pulses_9 : decode cX2_pulses 9 = .ok (.if_icmp .ge 20, 3) := by decide +kernel
theorem dX2_pulses_12 : decode cX2_pulses 12 = .ok (.iload_n 2, 1) := by decide +kernel
theorem dX2_pulses_13 : decode cX2_pulses 13 = .ok (.aload_n 1, 1) := by decide +kernel
theorem dX2_pulses_14 : decode cX2_pulses 14 = .ok (.iconst 1, 1) := by decide +kernel
theorem dX2_pulses_15 : decode cX2_pulses 15 = .ok (.iload_n 3, 1) := by decide +kernel
theorem dX2_pulses_16 : decode cX2_pulses 16 = .ok (.iadd, 1) := by decide +kernel
theorem dX2_pulses_17 : decode cX2_pulses 17 = .ok (.iaload, 1) := by decide +kernel
theorem dX2_pulses_18 : decode cX2_pulses 18 = .ok (.invokestatic 142, 3) := by decide +kernel
theorem dX2_pulses_21 : decode cX2_pulses 21 = .ok (.iadd, 1) := by decide +kernel
theorem dX2_pulses_22 : decode cX2_pulses 22 = .ok (.istore_n 2, 1) := by decide +kernel
theorem dX2_pulses_23 : decode cX2_pulses 23 = .ok (.iinc 3 1, 3) := by decide +kernel
theorem dX2_pulses_26 : decode cX2_pulses 26 = .ok (.goto (-22), 3) := by decide +kernel
theorem dX2_pulses_29 : decode cX2_pulses 29 = .ok (.iload_n 2, 1) := by decide +kernel
theorem dX2_pulses_30 : decode cX2_pulses 30 = .ok (.ireturn, 1) := by decide +kernel
theorem dX2_tube_0 : decode cX2_tube 0 = .ok (.aload_n 0, 1) := by decide +kernel
theorem dX2_tube_1 : decode cX2_tube 1 = .ok (.iload_n 1, 1) := by decide +kernel
theorem dX2_tube_2 : decode cX2_tube 2 = .ok (.invokevirtual 145, 3) := by decide +kernel
theorem dX2_tube_5 : decode cX2_tube 5 = .ok (.ifCond .eq 13, 3) := by decide +kernel
theorem dX2_tube_8 : decode cX2_tube 8 = .ok (.iload_n 2, 1) := by decide +kernel
theorem dX2_tube_9 : decode cX2_tube 9 = .ok (.iconst 0, 1) := by decide +kernel
theorem dX2_tube_10 : decode cX2_tube 10 = .ok (.bipush 6, 2) := by decide +kernel
theorem dX2_tube_12 : decode cX2_tube 12 = .ok (.invokestatic 82, 3) := by decide +kernel
theorem dX2_tube_15 : decode cX2_tube 15 = .ok (.ifCond .ne 5, 3) := by decide +kernel
theorem dX2_tube_18 : decode cX2_tube 18 = .ok (.iconst (-1), 1) := by decide +kernel
theorem dX2_tube_19 : decode cX2_tube 19 = .ok (.ireturn, 1) := by decide +kernel
theorem dX2_tube_20 : decode cX2_tube 20 = .ok (.iload_n 2, 1) := by decide +kernel
theorem dX2_tube_21 : decode cX2_tube 21 = .ok (.tableswitch 127 0 5 #[39, 51, 63, 75, 89, 104], 39) := by decide +kernel
theorem dX2_tube_60 : decode cX2_tube 60 = .ok (.aload_n 0, 1) := by decide +kernel
theorem dX2_tube_61 : decode cX2_tube 61 = .ok (.aload_n 0, 1) := by decide +kernel
theorem dX2_tube_62 : decode cX2_tube 62 = .ok (.getfield 22, 3) := by decide +kernel
theorem dX2_tube_65 : decode cX2_tube 65 = .ok (.iload_n 1, 1) := by decide +kernel
theorem dX2_tube_66 : decode cX2_tube 66 = .ok (.iaload, 1) := by decide +kernel
theorem dX2_tube_67 : decode cX2_tube 67 = .ok (.iconst 1, 1) := by decide +kernel
theorem dX2_tube_68 : decode cX2_tube 68 = .ok (.invokevirtual 102, 3) := by decide +kernel
theorem dX2_tube_71 : decode cX2_tube 71 = .ok (.ireturn, 1) := by decide +kernel
theorem dX2_tube_72 : decode cX2_tube 72 = .ok (.aload_n 0, 1) := by decide +kernel
theorem dX2_tube_73 : decode cX2_tube 73 = .ok (.aload_n 0, 1) := by decide +kernel
theorem dX2_tube_74 : decode cX2_tube 74 = .ok (.getfield 25, 3) := by decide +kernel
theorem dX2_tube_77 : decode cX2_tube 77 = .ok (.iload_n 1, 1) := by decide +kernel
theorem dX2_tube_78 : decode cX2_tube 78 = .ok (.iaload, 1) := by decide +kernel
theorem dX2_tube_79 : decode cX2_tube 79 = .ok (.iconst 1, 1) := by decide +kernel
theorem dX2_tube_80 : decode cX2_tube 80 = .ok (.invokevirtual 102, 3) := by decide +kernel
theorem dX2_tube_83 : decode cX2_tube 83 = .ok (.ireturn, 1) := by decide +kernel
theorem dX2_tube_84 : decode cX2_tube 84 = .ok (.aload_n 0, 1) := by decide +kernel
theorem dX2_tube_85 : decode cX2_tube 85 = .ok (.aload_n 0, 1) := by decide +kernel
theorem dX2_tube_86 : decode cX2_tube 86 = .ok (.getfield 28, 3) := by decide +kernel
theorem dX2_tube_89 : decode cX2_tube 89 = .ok (.iload_n 1, 1) := by decide +kernel
theorem dX2_tube_90 : decode cX2_tube 90 = .ok (.iaload, 1) := by decide +kernel
theorem dX2_tube_91 : decode cX2_tube 91 = .ok (.iconst 1, 1) := by decide +kernel
theorem dX2_tube_92 : decode cX2_tube 92 = .ok (.invokevirtual 102, 3) := by decide +kernel
theorem dX2_tube_95 : decode cX2_tube 95 = .ok (.ireturn, 1) := by decide +kernel
theorem dX2_tube_96 : decode cX2_tube 96 = .ok (.aload_n 0, 1) := by decide +kernel
theorem dX2_tube_97 : decode cX2_tube 97 = .ok (.aload_n 0, 1) := by decide +kernel
theorem dX2_tube_98 : decode cX2_tube 98 = .ok (.getfield 31, 3) := by decide +kernel
theorem dX2_tube_101 : decode cX2_tube 101 = .ok (.iconst 1, 1) := by decide +kernel
theorem dX2_tube_102 : decode cX2_tube 102 = .ok (.iload_n 1, 1) := by decide +kernel
theorem dX2_tube_103 : decode cX2_tube 103 = .ok (.iadd, 1) := by decide +kernel
theorem dX2_tube_104 : decode cX2_tube 104 = .ok (.iaload, 1) := by decide +kernel
theorem dX2_tube_105 : decode cX2_tube 105 = .ok (.iconst 1, 1) := by decide +kernel
theorem dX2_tube_106 : decode cX2_tube 106 = .ok (.invokevirtual 102, 3) := by decide +kernel
theorem dX2_tube_109 : decode cX2_tube 109 = .ok (.ireturn, 1) := by decide +kernel
theorem dX2_tube_110 : decode cX2_tube 110 = .ok (.aload_n 0, 1) := by decide +kernel
theorem dX2_tube_111 : decode cX2_tube 111 = .ok (.aload_n 0, 1) := by decide +kernel
theorem dX2_tube_112 : decode cX2_tube 112 = .ok (.getfield 31, 3) := by decide +kernel
theorem dX2_tube_115 : decode cX2_tube 115 = .ok (.bipush 8, 2) := by decide +kernel
theorem dX2_tube_117 : decode cX2_tube 117 = .ok (.iload_n 1, 1) := by decide +kernel
theorem dX2_tube_118 : decode cX2_tube 118 = .ok (.iadd, 1) := by decide +kernel
theorem dX2_tube_119 : decode cX2_tube 119 = .ok (.iaload, 1) := by decide +kernel
theorem dX2_tube_120 : decode cX2_tube 120 = .ok (.iconst 1, 1) := by decide +kernel
theorem dX2_tube_121 : decode cX2_tube 121 = .ok (.invokevirtual 102, 3) := by decide +kernel
theorem dX2_tube_124 : decode cX2_tube 124 = .ok (.ireturn, 1) := by decide +kernel
theorem dX2_tube_125 : decode cX2_tube 125 = .ok (.aload_n 0, 1) := by decide +kernel
theorem dX2_tube_126 : decode cX2_tube 126 = .ok (.aload_n 0, 1) := by decide +kernel
theorem dX2_tube_127 : decode cX2_tube 127 = .ok (.aload_n 0, 1) := by decide +kernel
theorem dX2_tube_128 : decode cX2_tube 128 = .ok (.getfield 31, 3) := by decide +kernel
theorem dX2_tube_131 : decode cX2_tube 131 = .ok (.iload_n 1, 1) := by decide +kernel
theorem dX2_tube_132 : decode cX2_tube 132 = .ok (.invokevirtual 128, 3) := by decide +kernel
theorem dX2_tube_135 : decode cX2_tube 135 = .ok (.ifCond .eq 7, 3) := by decide +kernel
theorem dX2_tube_138 : decode cX2_tube 138 = .ok (.iconst 1, 1) := by decide +kernel
theorem dX2_tube_139 : decode cX2_tube 139 = .ok (.goto 4, 3) := by decide +kernel
theorem dX2_tube_142 : decode cX2_tube 142 = .ok (.iconst 0, 1) := by decide +kernel
theorem dX2_tube_143 : decode cX2_tube 143 = .ok (.iconst 1, 1) := by decide +kernel
theorem dX2_tube_144 : decode cX2_tube 144 = .ok (.invokevirtual 102, 3) := by decide +kernel
theorem dX2_tube_147 : decode cX2_tube 147 = .ok (.ireturn, 1) := by decide +kernel
theorem dX2_tube_148 : decode cX2_tube 148 = .ok (.aload_n 0, 1) := by decide +kernel
theorem dX2_tube_149 : decode cX2_tube 149 = .ok (.aload_n 0, 1) := by decide +kernel
theorem dX2_tube_150 : decode cX2_tube 150 = .ok (.iload_n 1, 1) := by decide +kernel
theorem dX2_tube_151 : decode cX2_tube 151 = .ok (.aload_n 0, 1) := by decide +kernel
theorem dX2_tube_152 : decode cX2_tube 152 = .ok (.getfield 22, 3) := by decide +kernel
theorem dX2_tube_155 : decode cX2_tube 155 = .ok (.iload_n 1, 1) := by decide +kernel
theorem dX2_tube_156 : decode cX2_tube 156 = .ok (.iaload, 1) := by decide +kernel
theorem dX2_tube_157 : decode cX2_tube 157 = .ok (.invokevirtual 148, 3) := by decide +kernel
theorem dX2_tube_160 : decode cX2_tube 160 = .ok (.iconst 1, 1) := by decide +kernel
theorem dX2_tube_161 : decode cX2_tube 161 = .ok (.invokevirtual 102, 3) := by decide +kernel
theorem dX2_tube_164 : decode cX2_tube 164 = .ok (.ireturn, 1) := by decide +kernel
theorem dX2_sentNow_0 : decode cX2_sentNow 0 = .ok (.aload_n 0, 1) := by decide +kernel
theorem dX2_sentNow_1 : decode cX2_sentNow 1 = .ok (.aload_n 0, 1) := by decide +kernel
theorem dX2_sentNow_2 : decode cX2_sentNow 2 = .ok (.getfield 31, 3) := by decide +kernel
theorem dX2_sentNow_5 : decode cX2_sentNow 5 = .ok (.iload_n 1, 1) := by decide +kernel
theorem dX2_sentNow_6 : decode cX2_sentNow 6 = .ok (.iload_n 2, 1) := by decide +kernel
theorem dX2_sentNow_7 : decode cX2_sentNow 7 = .ok (.aload_n 0, 1) := by decide +kernel
theorem dX2_sentNow_8 : decode cX2_sentNow 8 = .ok (.aload_n 0, 1) := by decide +kernel
theorem dX2_sentNow_9 : decode cX2_sentNow 9 = .ok (.getfield 31, 3) := by decide +kernel
theorem dX2_sentNow_12 : decode cX2_sentNow 12 = .ok (.aload_n 0, 1) := by decide +kernel
theorem dX2_sentNow_13 : decode cX2_sentNow 13 = .ok (.aload_n 0, 1) := by decide +kernel
theorem dX2_sentNow_14 : decode cX2_sentNow 14 = .ok (.getfield 31, 3) := by decide +kernel
theorem dX2_sentNow_17 : decode cX2_sentNow 17 = .ok (.iload_n 1, 1) := by decide +kernel
theorem dX2_sentNow_18 : decode cX2_sentNow 18 = .ok (.invokevirtual 131, 3) := by decide +kernel
theorem dX2_sentNow_21 : decode cX2_sentNow 21 = .ok (.invokevirtual 135, 3) := by decide +kernel
theorem dX2_sentNow_24 : decode cX2_sentNow 24 = .ok (.invokevirtual 138, 3) := by decide +kernel
theorem dX2_sentNow_27 : decode cX2_sentNow 27 = .ok (.ireturn, 1) := by decide +kernel
theorem dX2_isA_0 : decode cX2_isA 0 = .ok (.aload_n 0, 1) := by decide +kernel
theorem dX2_isA_1 : decode cX2_isA 1 = .ok (.getfield 22, 3) := by decide +kernel
theorem dX2_isA_4 : decode cX2_isA 4 = .ok (.iload_n 1, 1) := by decide +kernel
theorem dX2_isA_5 : decode cX2_isA 5 = .ok (.iaload, 1) := by decide +kernel
theorem dX2_isA_6 : decode cX2_isA 6 = .ok (.iload_n 2, 1) := by decide +kernel
theorem dX2_isA_7 : decode cX2_isA 7 = .ok (.if_icmp .eq 33, 3) := by decide +kernel
theorem dX2_isA_10 : decode cX2_isA 10 = .ok (.iload_n 2, 1) := by decide +kernel
theorem dX2_isA_11 : decode cX2_isA 11 = .ok (.iconst 1, 1) := by decide +kernel
theorem dX2_isA_12 : decode cX2_isA 12 = .ok (.if_icmp .ne 13, 3) := by decide +kernel
theorem dX2_isA_15 : decode cX2_isA 15 = .ok (.aload_n 0, 1) := by decide +kernel
theorem dX2_isA_16 : decode cX2_isA 16 = .ok (.getfield 22, 3) := by decide +kernel
theorem dX2_isA_19 : decode cX2_isA 19 = .ok (.iload_n 1, 1) := by decide +kernel
theorem dX2_isA_20 : decode cX2_isA 20 = .ok (.iaload, 1) := by decide +kernel
theorem dX2_isA_21 : decode cX2_isA 21 = .ok (.iconst 4, 1) := by decide +kernel
theorem dX2_isA_22 : decode cX2_isA 22 = .ok (.if_icmp .eq 18, 3) := by decide +kernel
theorem dX2_isA_25 : decode cX2_isA 25 = .ok (.iload_n 2, 1) := by decide +kernel
theorem dX2_isA_26 : decode cX2_isA 26 = .ok (.iconst 2, 1) := by decide +kernel
theorem dX2_isA_27 : decode cX2_isA 27 = .ok (.if_icmp .ne 17, 3) := by decide +kernel
theorem dX2_isA_30 : decode cX2_isA 30 = .ok (.aload_n 0, 1) := by decide +kernel
theorem dX2_isA_31 : decode cX2_isA 31 = .ok (.getfield 22, 3) := by decide +kernel
theorem dX2_isA_34 : decode cX2_isA 34 = .ok (.iload_n 1, 1) := by decide +kernel
theorem dX2_isA_35 : decode cX2_isA 35 = .ok (.iaload, 1) := by decide +kernel
theorem dX2_isA_36 : decode cX2_isA 36 = .ok (.iconst 5, 1) := by decide +kernel
theorem dX2_isA_37 : decode cX2_isA 37 = .ok (.if_icmp .ne 7, 3) := by decide +kernel
theorem dX2_isA_40 : decode cX2_isA 40 = .ok (.iconst 1, 1) := by decide +kernel
theorem dX2_isA_41 : decode cX2_isA 41 = .ok (.goto 4, 3) := by decide +kernel
theorem dX2_isA_44 : decode cX2_isA 44 = .ok (.iconst 0, 1) := by decide +kernel
theorem dX2_isA_45 : decode cX2_isA 45 = .ok (.ireturn, 1) := by decide +kernel
theorem dX2_mark_0 : decode cX2_mark 0 = .ok (.aload_n 0, 1) := by decide +kernel
theorem dX2_mark_1 : decode cX2_mark 1 = .ok (.iload_n 1, 1) := by decide +kernel
theorem dX2_mark_2 : decode cX2_mark 2 = .ok (.invokevirtual 145, 3) := by decide +kernel
theorem dX2_mark_5 : decode cX2_mark 5 = .ok (.ifCond .eq 12, 3) := by decide +kernel
theorem dX2_mark_8 : decode cX2_mark 8 = .ok (.iload_n 2, 1) := by decide +kernel
theorem dX2_mark_9 : decode cX2_mark 9 = .ok (.iconst 1, 1) := by decide +kernel
theorem dX2_mark_10 : decode cX2_mark 10 = .ok (.iconst 5, 1) := by decide +kernel
theorem dX2_mark_11 : decode cX2_mark 11 = .ok (.invokestatic 82, 3) := by decide +kernel
theorem dX2_mark_14 : decode cX2_mark 14 = .ok (.ifCond .ne 5, 3) := by decide +kernel
theorem dX2_mark_17 : decode cX2_mark 17 = .ok (.iconst (-1), 1) := by decide +kernel
theorem dX2_mark_18 : decode cX2_mark 18 = .ok (.ireturn, 1) := by decide +kernel
theorem dX2_mark_19 : decode cX2_mark 19 = .ok (.aload_n 0, 1) := by decide +kernel
theorem dX2_mark_20 : decode cX2_mark 20 = .ok (.iload_n 1, 1) := by decide +kernel
theorem dX2_mark_21 : decode cX2_mark 21 = .ok (.iload_n 2, 1) := by decide +kernel
theorem dX2_mark_22 : decode cX2_mark 22 = .ok (.invokevirtual 151, 3) := by decide +kernel
theorem dX2_mark_25 : decode cX2_mark 25 = .ok (.ifCond .ne 9, 3) := by decide +kernel
theorem dX2_mark_28 : decode cX2_mark 28 = .ok (.aload_n 0, 1) := by decide +kernel
theorem dX2_mark_29 : decode cX2_mark 29 = .ok (.iconst 3, 1) := by decide +kernel
theorem dX2_mark_30 : decode cX2_mark 30 = .ok (.invokevirtual 90, 3) := by decide +kernel
theorem dX2_mark_33 : decode cX2_mark 33 = .ok (.ireturn, 1) := by decide +kernel
theorem dX2_mark_34 : decode cX2_mark 34 = .ok (.iload_n 2, 1) := by decide +kernel
theorem dX2_mark_35 : decode cX2_mark 35 = .ok (.tableswitch 134 1 4 #[29, 63, 104, 113], 29) := by decide +kernel
theorem dX2_mark_64 : decode cX2_mark 64 = .ok (.aload_n 0, 1) := by decide +kernel
theorem dX2_mark_65 : decode cX2_mark 65 = .ok (.getfield 28, 3) := by decide +kernel
theorem dX2_mark_68 : decode cX2_mark 68 = .ok (.iload_n 1, 1) := by decide +kernel
theorem dX2_mark_69 : decode cX2_mark 69 = .ok (.iaload, 1) := by decide +kernel
theorem dX2_mark_70 : decode cX2_mark 70 = .ok (.iconst 2, 1) := by decide +kernel
theorem dX2_mark_71 : decode cX2_mark 71 = .ok (.iadd, 1) := by decide +kernel
theorem dX2_mark_72 : decode cX2_mark 72 = .ok (.aload_n 0, 1) := by decide +kernel
theorem dX2_mark_73 : decode cX2_mark 73 = .ok (.getfield 31, 3) := by decide +kernel
theorem dX2_mark_76 : decode cX2_mark 76 = .ok (.iconst 0, 1) := by decide +kernel
theorem dX2_mark_77 : decode cX2_mark 77 = .ok (.iaload, 1) := by decide +kernel
theorem dX2_mark_78 : decode cX2_mark 78 = .ok (.aload_n 0, 1) := by decide +kernel
theorem dX2_mark_79 : decode cX2_mark 79 = .ok (.getfield 28, 3) := by decide +kernel
theorem dX2_mark_82 : decode cX2_mark 82 = .ok (.iload_n 1, 1) := by decide +kernel
theorem dX2_mark_83 : decode cX2_mark 83 = .ok (.iaload, 1) := by decide +kernel
theorem dX2_mark_84 : decode cX2_mark 84 = .ok (.iconst 2, 1) := by decide +kernel
theorem dX2_mark_85 : decode cX2_mark 85 = .ok (.iadd, 1) := by decide +kernel
theorem dX2_mark_86 : decode cX2_mark 86 = .ok (.irem, 1) := by decide +kernel
theorem dX2_mark_87 : decode cX2_mark 87 = .ok (.isub, 1) := by decide +kernel
theorem dX2_mark_88 : decode cX2_mark 88 = .ok (.aload_n 0, 1) := by decide +kernel
theorem dX2_mark_89 : decode cX2_mark 89 = .ok (.getfield 28, 3) := by decide +kernel
theorem dX2_mark_92 : decode cX2_mark 92 = .ok (.iload_n 1, 1) := by decide +kernel
theorem dX2_mark_93 : decode cX2_mark 93 = .ok (.iaload, 1) := by decide +kernel
theorem dX2_mark_94 : decode cX2_mark 94 = .ok (.iconst 2, 1) := by decide +kernel
theorem dX2_mark_95 : decode cX2_mark 95 = .ok (.iadd, 1) := by decide +kernel
theorem dX2_mark_96 : decode cX2_mark 96 = .ok (.irem, 1) := by decide +kernel
theorem dX2_mark_97 : decode cX2_mark 97 = .ok (.ireturn, 1) := by decide +kernel
theorem dX2_mark_98 : decode cX2_mark 98 = .ok (.aload_n 0, 1) := by decide +kernel
theorem dX2_mark_99 : decode cX2_mark 99 = .ok (.aload_n 0, 1) := by decide +kernel
theorem dX2_mark_100 : decode cX2_mark 100 = .ok (.getfield 31, 3) := by decide +kernel
theorem dX2_mark_103 : decode cX2_mark 103 = .ok (.iload_n 1, 1) := by decide +kernel
theorem dX2_mark_104 : decode cX2_mark 104 = .ok (.aload_n 0, 1) := by decide +kernel
theorem dX2_mark_105 : decode cX2_mark 105 = .ok (.getfield 22, 3) := by decide +kernel
theorem dX2_mark_108 : decode cX2_mark 108 = .ok (.iload_n 1, 1) := by decide +kernel
theorem dX2_mark_109 : decode cX2_mark 109 = .ok (.iaload, 1) := by decide +kernel
theorem dX2_mark_110 : decode cX2_mark 110 = .ok (.iconst 0, 1) := by decide +kernel
theorem dX2_mark_111 : decode cX2_mark 111 = .ok (.invokevirtual 138, 3) := by decide +kernel
theorem dX2_mark_114 : decode cX2_mark 114 = .ok (.aload_n 0, 1) := by decide +kernel
theorem dX2_mark_115 : decode cX2_mark 115 = .ok (.aload_n 0, 1) := by decide +kernel
theorem dX2_mark_116 : decode cX2_mark 116 = .ok (.getfield 31, 3) := by decide +kernel
theorem dX2_mark_119 : decode cX2_mark 119 = .ok (.iload_n 1, 1) := by decide +kernel
theorem dX2_mark_120 : decode cX2_mark 120 = .ok (.aload_n 0, 1) := by decide +kernel
theorem dX2_mark_121 : decode cX2_mark 121 = .ok (.getfield 22, 3) := by decide +kernel
theorem dX2_mark_124 : decode cX2_mark 124 = .ok (.iload_n 1, 1) := by decide +kernel
theorem dX2_mark_125 : decode cX2_mark 125 = .ok (.iaload, 1) := by decide +kernel
theorem dX2_mark_126 : decode cX2_mark 126 = .ok (.iconst 1, 1) := by decide +kernel
theorem dX2_mark_127 : decode cX2_mark 127 = .ok (.invokevirtual 138, 3) := by decide +kernel
theorem dX2_mark_130 : decode cX2_mark 130 = .ok (.if_icmp .ne 7, 3) := by decide +kernel
theorem dX2_mark_133 : decode cX2_mark 133 = .ok (.iconst 1, 1) := by decide +kernel
theorem dX2_mark_134 : decode cX2_mark 134 = .ok (.goto 4, 3) := by decide +kernel
theorem dX2_mark_137 : decode cX2_mark 137 = .ok (.iconst 0, 1) := by decide +kernel
theorem dX2_mark_138 : decode cX2_mark 138 = .ok (.ireturn, 1) := by decide +kernel
theorem dX2_mark_139 : decode cX2_mark 139 = .ok (.iconst 2, 1) := by decide +kernel
theorem dX2_mark_140 : decode cX2_mark 140 = .ok (.aload_n 0, 1) := by decide +kernel
theorem dX2_mark_141 : decode cX2_mark 141 = .ok (.getfield 25, 3) := by decide +kernel
theorem dX2_mark_144 : decode cX2_mark 144 = .ok (.iload_n 1, 1) := by decide +kernel
theorem dX2_mark_145 : decode cX2_mark 145 = .ok (.iaload, 1) := by decide +kernel
theorem dX2_mark_146 : decode cX2_mark 146 = .ok (.imul, 1) := by decide +kernel
theorem dX2_mark_147 : decode cX2_mark 147 = .ok (.ireturn, 1) := by decide +kernel
theorem dX2_mark_148 : decode cX2_mark 148 = .ok (.aload_n 0, 1) := by decide +kernel
theorem dX2_mark_149 : decode cX2_mark 149 = .ok (.iload_n 1, 1) := by decide +kernel
theorem dX2_mark_150 : decode cX2_mark 150 = .ok (.iconst 4, 1) := by decide +kernel
theorem dX2_mark_151 : decode cX2_mark 151 = .ok (.invokevirtual 148, 3) := by decide +kernel
theorem dX2_mark_154 : decode cX2_mark 154 = .ok (.aload_n 0, 1) := by decide +kernel
theorem dX2_mark_155 : decode cX2_mark 155 = .ok (.iload_n 1, 1) := by decide +kernel
theorem dX2_mark_156 : decode cX2_mark 156 = .ok (.iconst 1, 1) := by decide +kernel
theorem dX2_mark_157 : decode cX2_mark 157 = .ok (.invokevirtual 148, 3) := by decide +kernel
theorem dX2_mark_160 : decode cX2_mark 160 = .ok (.if_icmp .eq 7, 3) := by decide +kernel
theorem dX2_mark_163 : decode cX2_mark 163 = .ok (.iconst 1, 1) := by decide +kernel
theorem dX2_mark_164 : decode cX2_mark 164 = .ok (.goto 4, 3) := by decide +kernel
theorem dX2_mark_167 : decode cX2_mark 167 = .ok (.iconst 0, 1) := by decide +kernel
theorem dX2_mark_168 : decode cX2_mark 168 = .ok (.ireturn, 1) := by decide +kernel
theorem dX2_mark_169 : decode cX2_mark 169 = .ok (.aload_n 0, 1) := by decide +kernel
theorem dX2_mark_170 : decode cX2_mark 170 = .ok (.iload_n 1, 1) := by decide +kernel
theorem dX2_mark_171 : decode cX2_mark 171 = .ok (.iconst 5, 1) := by decide +kernel
theorem dX2_mark_172 : decode cX2_mark 172 = .ok (.invokevirtual 148, 3) := by decide +kernel
theorem dX2_mark_175 : decode cX2_mark 175 = .ok (.aload_n 0, 1) := by decide +kernel
theorem dX2_mark_176 : decode cX2_mark 176 = .ok (.iload_n 1, 1) := by decide +kernel
theorem dX2_mark_177 : decode cX2_mark 177 = .ok (.iconst 2, 1) := by decide +kernel
theorem dX2_mark_178 : decode cX2_mark 178 = .ok (.invokevirtual 148, 3) := by decide +kernel
theorem dX2_mark_181 : decode cX2_mark 181 = .ok (.if_icmp .eq 7, 3) := by decide +kernel
theorem dX2_mark_184 : decode cX2_mark 184 = .ok (.iconst 1, 1) := by decide +kernel
theorem dX2_mark_185 : decode cX2_mark 185 = .ok (.goto 4, 3) := by decide +kernel
theorem dX2_mark_188 : decode cX2_mark 188 = .ok (.iconst 0, 1) := by decide +kernel
theorem dX2_mark_189 : decode cX2_mark 189 = .ok (.ireturn, 1) := by decide +kernel
theorem dX2_notes_0 : decode cX2_notes 0 = .ok (.aload_n 0, 1) := by decide +kernel
theorem dX2_notes_1 : decode cX2_notes 1 = .ok (.getfield 31, 3) := by decide +kernel
theorem dX2_notes_4 : decode cX2_notes 4 = .ok (.iconst 0, 1) := by decide +kernel
end
section
theorem dX2_notes_5 : decode cX2_notes 5 = .ok (.aload_n 0, 1) := by decide +kernel
theorem dX2_notes_6 : decode cX2_notes 6 = .ok (.getfield 37, 3) := by decide +kernel
theorem dX2_notes_9 : decode cX2_notes 9 = .ok (.bipush 15, 2) := by decide +kernel
theorem dX2_notes_11 : decode cX2_notes 11 = .ok (.aload_n 0, 1) := by decide +kernel
theorem dX2_notes_12 : decode cX2_notes 12 = .ok (.getfield 121, 3) := by decide +kernel
theorem dX2_notes_15 : decode cX2_notes 15 = .ok (.imul, 1) := by decide +kernel
theorem dX2_notes_16 : decode cX2_notes 16 = .ok (.bipush 15, 2) := by decide +kernel
theorem dX2_notes_18 : decode cX2_notes 18 = .ok (.invokestatic 117, 3) := by decide +kernel
theorem dX2_notes_21 : decode cX2_notes 21 = .ok (.aload_n 0, 1) := by decide +kernel
theorem dX2_notes_22 : decode cX2_notes 22 = .ok (.dup, 1) := by decide +kernel
theorem dX2_notes_23 : decode cX2_notes 23 = .ok (.getfield 121, 3) := by decide +kernel
theorem dX2_notes_26 : decode cX2_notes 26 = .ok (.iconst 1, 1) := by decide +kernel
theorem dX2_notes_27 : decode cX2_notes 27 = .ok (.iadd, 1) := by decide +kernel
theorem dX2_notes_28 : decode cX2_notes 28 = .ok (.putfield 121, 3) := by decide +kernel
theorem dX2_notes_31 : decode cX2_notes 31 = .ok (.return_, 1) := by decide +kernel
theorem dX2_tick_0 : decode cX2_tick 0 = .ok (.aload_n 0, 1) := by decide +kernel
theorem dX2_tick_1 : decode cX2_tick 1 = .ok (.getfield 79, 3) := by decide +kernel
theorem dX2_tick_4 : decode cX2_tick 4 = .ok (.ifCond .eq 14, 3) := by decide +kernel
theorem dX2_tick_7 : decode cX2_tick 7 = .ok (.aload_n 0, 1) := by decide +kernel
theorem dX2_tick_8 : decode cX2_tick 8 = .ok (.getfield 31, 3) := by decide +kernel
theorem dX2_tick_11 : decode cX2_tick 11 = .ok (.iconst 0, 1) := by decide +kernel
theorem dX2_tick_12 : decode cX2_tick 12 = .ok (.iaload, 1) := by decide +kernel
theorem dX2_tick_13 : decode cX2_tick 13 = .ok (.bipush 99, 2) := by decide +kernel
theorem dX2_tick_15 : decode cX2_tick 15 = .ok (.if_icmp .ne 6, 3) := by decide +kernel
theorem dX2_tick_18 : decode cX2_tick 18 = .ok (.bipush (-4), 2) := by decide +kernel
theorem dX2_tick_20 : decode cX2_tick 20 = .ok (.ireturn, 1) := by decide +kernel
theorem dX2_tick_21 : decode cX2_tick 21 = .ok (.aload_n 0, 1) := by decide +kernel
theorem dX2_tick_22 : decode cX2_tick 22 = .ok (.getfield 121, 3) := by decide +kernel
theorem dX2_tick_25 : decode cX2_tick 25 = .ok (.bipush 40, 2) := by decide +kernel
theorem dX2_tick_27 : decode cX2_tick 27 = .ok (.if_icmp .ne 6, 3) := by decide +kernel
theorem dX2_tick_30 : decode cX2_tick 30 = .ok (.bipush (-2), 2) := by decide +kernel
theorem dX2_tick_32 : decode cX2_tick 32 = .ok (.ireturn, 1) := by decide +kernel
theorem dX2_tick_33 : decode cX2_tick 33 = .ok (.aload_n 0, 1) := by decide +kernel
theorem dX2_tick_34 : decode cX2_tick 34 = .ok (.invokevirtual 155, 3) := by decide +kernel
theorem dX2_tick_37 : decode cX2_tick 37 = .ok (.aload_n 0, 1) := by decide +kernel
theorem dX2_tick_38 : decode cX2_tick 38 = .ok (.aload_n 0, 1) := by decide +kernel
theorem dX2_tick_39 : decode cX2_tick 39 = .ok (.getfield 31, 3) := by decide +kernel
theorem dX2_tick_42 : decode cX2_tick 42 = .ok (.invokevirtual 158, 3) := by decide +kernel
theorem dX2_tick_45 : decode cX2_tick 45 = .ok (.aload_n 0, 1) := by decide +kernel
theorem dX2_tick_46 : decode cX2_tick 46 = .ok (.aload_n 0, 1) := by decide +kernel
theorem dX2_tick_47 : decode cX2_tick 47 = .ok (.getfield 31, 3) := by decide +kernel
theorem dX2_tick_50 : decode cX2_tick 50 = .ok (.invokevirtual 162, 3) := by decide +kernel
theorem dX2_tick_53 : decode cX2_tick 53 = .ok (.ireturn, 1) := by decide +kernel
theorem dX2_set_0 : decode cX2_set 0 = .ok (.aload_n 0, 1) := by decide +kernel
theorem dX2_set_1 : decode cX2_set 1 = .ok (.iload_n 1, 1) := by decide +kernel
theorem dX2_set_2 : decode cX2_set 2 = .ok (.invokevirtual 145, 3) := by decide +kernel
theorem dX2_set_5 : decode cX2_set 5 = .ok (.ifCond .eq 19, 3) := by decide +kernel
theorem dX2_set_8 : decode cX2_set 8 = .ok (.iload_n 2, 1) := by decide +kernel
theorem dX2_set_9 : decode cX2_set 9 = .ok (.iconst 0, 1) := by decide +kernel
theorem dX2_set_10 : decode cX2_set 10 = .ok (.aload_n 0, 1) := by decide +kernel
theorem dX2_set_11 : decode cX2_set 11 = .ok (.getfield 25, 3) := by decide +kernel
theorem dX2_set_14 : decode cX2_set 14 = .ok (.iload_n 1, 1) := by decide +kernel
theorem dX2_set_15 : decode cX2_set 15 = .ok (.iaload, 1) := by decide +kernel
theorem dX2_set_16 : decode cX2_set 16 = .ok (.iconst 1, 1) := by decide +kernel
theorem dX2_set_17 : decode cX2_set 17 = .ok (.isub, 1) := by decide +kernel
theorem dX2_set_18 : decode cX2_set 18 = .ok (.invokestatic 82, 3) := by decide +kernel
theorem dX2_set_21 : decode cX2_set 21 = .ok (.ifCond .ne 5, 3) := by decide +kernel
theorem dX2_set_24 : decode cX2_set 24 = .ok (.iconst (-1), 1) := by decide +kernel
theorem dX2_set_25 : decode cX2_set 25 = .ok (.ireturn, 1) := by decide +kernel
theorem dX2_set_26 : decode cX2_set 26 = .ok (.aload_n 0, 1) := by decide +kernel
theorem dX2_set_27 : decode cX2_set 27 = .ok (.getfield 121, 3) := by decide +kernel
theorem dX2_set_30 : decode cX2_set 30 = .ok (.bipush 40, 2) := by decide +kernel
theorem dX2_set_32 : decode cX2_set 32 = .ok (.if_icmp .ne 6, 3) := by decide +kernel
theorem dX2_set_35 : decode cX2_set 35 = .ok (.bipush (-2), 2) := by decide +kernel
theorem dX2_set_37 : decode cX2_set 37 = .ok (.ireturn, 1) := by decide +kernel
theorem dX2_set_38 : decode cX2_set 38 = .ok (.aload_n 0, 1) := by decide +kernel
theorem dX2_set_39 : decode cX2_set 39 = .ok (.invokevirtual 155, 3) := by decide +kernel
theorem dX2_set_42 : decode cX2_set 42 = .ok (.aload_n 0, 1) := by decide +kernel
theorem dX2_set_43 : decode cX2_set 43 = .ok (.getfield 31, 3) := by decide +kernel
theorem dX2_set_46 : decode cX2_set 46 = .ok (.iconst 1, 1) := by decide +kernel
theorem dX2_set_47 : decode cX2_set 47 = .ok (.iload_n 1, 1) := by decide +kernel
theorem dX2_set_48 : decode cX2_set 48 = .ok (.iadd, 1) := by decide +kernel
theorem dX2_set_49 : decode cX2_set 49 = .ok (.dup2, 1) := by decide +kernel
theorem dX2_set_50 : decode cX2_set 50 = .ok (.iaload, 1) := by decide +kernel
theorem dX2_set_51 : decode cX2_set 51 = .ok (.iconst 1, 1) := by decide +kernel
theorem dX2_set_52 : decode cX2_set 52 = .ok (.iload_n 2, 1) := by decide +kernel
theorem dX2_set_53 : decode cX2_set 53 = .ok (.ishl, 1) := by decide +kernel
theorem dX2_set_54 : decode cX2_set 54 = .ok (.ixor, 1) := by decide +kernel
theorem dX2_set_55 : decode cX2_set 55 = .ok (.iastore, 1) := by decide +kernel
theorem dX2_set_56 : decode cX2_set 56 = .ok (.aload_n 0, 1) := by decide +kernel
theorem dX2_set_57 : decode cX2_set 57 = .ok (.getfield 31, 3) := by decide +kernel
theorem dX2_set_60 : decode cX2_set 60 = .ok (.iconst 1, 1) := by decide +kernel
theorem dX2_set_61 : decode cX2_set 61 = .ok (.iload_n 1, 1) := by decide +kernel
theorem dX2_set_62 : decode cX2_set 62 = .ok (.iadd, 1) := by decide +kernel
theorem dX2_set_63 : decode cX2_set 63 = .ok (.iaload, 1) := by decide +kernel
theorem dX2_set_64 : decode cX2_set 64 = .ok (.ireturn, 1) := by decide +kernel
theorem dX2_swapped_0 : decode cX2_swapped 0 = .ok (.aload_n 0, 1) := by decide +kernel
theorem dX2_swapped_1 : decode cX2_swapped 1 = .ok (.bipush 8, 2) := by decide +kernel
theorem dX2_swapped_3 : decode cX2_swapped 3 = .ok (.iload_n 1, 1) := by decide +kernel
theorem dX2_swapped_4 : decode cX2_swapped 4 = .ok (.iadd, 1) := by decide +kernel
theorem dX2_swapped_5 : decode cX2_swapped 5 = .ok (.iaload, 1) := by decide +kernel
theorem dX2_swapped_6 : decode cX2_swapped 6 = .ok (.istore_n 3, 1) := by decide +kernel
theorem dX2_swapped_7 : decode cX2_swapped 7 = .ok (.aload_n 0, 1) := by decide +kernel
theorem dX2_swapped_8 : decode cX2_swapped 8 = .ok (.bipush 8, 2) := by decide +kernel
theorem dX2_swapped_10 : decode cX2_swapped 10 = .ok (.iload_n 1, 1) := by decide +kernel
theorem dX2_swapped_11 : decode cX2_swapped 11 = .ok (.iadd, 1) := by decide +kernel
theorem dX2_swapped_12 : decode cX2_swapped 12 = .ok (.aload_n 0, 1) := by decide +kernel
theorem dX2_swapped_13 : decode cX2_swapped 13 = .ok (.bipush 8, 2) := by decide +kernel
theorem dX2_swapped_15 : decode cX2_swapped 15 = .ok (.iload_n 2, 1) := by decide +kernel
theorem dX2_swapped_16 : decode cX2_swapped 16 = .ok (.iadd, 1) := by decide +kernel
theorem dX2_swapped_17 : decode cX2_swapped 17 = .ok (.iaload, 1) := by decide +kernel
theorem dX2_swapped_18 : decode cX2_swapped 18 = .ok (.iastore, 1) := by decide +kernel
theorem dX2_swapped_19 : decode cX2_swapped 19 = .ok (.aload_n 0, 1) := by decide +kernel
theorem dX2_swapped_20 : decode cX2_swapped 20 = .ok (.bipush 8, 2) := by decide +kernel
theorem dX2_swapped_22 : decode cX2_swapped 22 = .ok (.iload_n 2, 1) := by decide +kernel
theorem dX2_swapped_23 : decode cX2_swapped 23 = .ok (.iadd, 1) := by decide +kernel
theorem dX2_swapped_24 : decode cX2_swapped 24 = .ok (.iload_n 3, 1) := by decide +kernel
theorem dX2_swapped_25 : decode cX2_swapped 25 = .ok (.iastore, 1) := by decide +kernel
theorem dX2_swapped_26 : decode cX2_swapped 26 = .ok (.return_, 1) := by decide +kernel
theorem dX2_swap_0 : decode cX2_swap 0 = .ok (.aload_n 0, 1) := by decide +kernel
theorem dX2_swap_1 : decode cX2_swap 1 = .ok (.iload_n 1, 1) := by decide +kernel
theorem dX2_swap_2 : decode cX2_swap 2 = .ok (.invokevirtual 145, 3) := by decide +kernel
theorem dX2_swap_5 : decode cX2_swap 5 = .ok (.ifCond .eq 16, 3) := by decide +kernel
theorem dX2_swap_8 : decode cX2_swap 8 = .ok (.aload_n 0, 1) := by decide +kernel
theorem dX2_swap_9 : decode cX2_swap 9 = .ok (.iload_n 2, 1) := by decide +kernel
theorem dX2_swap_10 : decode cX2_swap 10 = .ok (.invokevirtual 145, 3) := by decide +kernel
theorem dX2_swap_13 : decode cX2_swap 13 = .ok (.ifCond .eq 8, 3) := by decide +kernel
theorem dX2_swap_16 : decode cX2_swap 16 = .ok (.iload_n 1, 1) := by decide +kernel
theorem dX2_swap_17 : decode cX2_swap 17 = .ok (.iload_n 2, 1) := by decide +kernel
theorem dX2_swap_18 : decode cX2_swap 18 = .ok (.if_icmp .ne 5, 3) := by decide +kernel
theorem dX2_swap_21 : decode cX2_swap 21 = .ok (.iconst (-1), 1) := by decide +kernel
theorem dX2_swap_22 : decode cX2_swap 22 = .ok (.ireturn, 1) := by decide +kernel
theorem dX2_swap_23 : decode cX2_swap 23 = .ok (.aload_n 0, 1) := by decide +kernel
theorem dX2_swap_24 : decode cX2_swap 24 = .ok (.getfield 121, 3) := by decide +kernel
theorem dX2_swap_27 : decode cX2_swap 27 = .ok (.bipush 40, 2) := by decide +kernel
theorem dX2_swap_29 : decode cX2_swap 29 = .ok (.if_icmp .ne 6, 3) := by decide +kernel
theorem dX2_swap_32 : decode cX2_swap 32 = .ok (.bipush (-2), 2) := by decide +kernel
theorem dX2_swap_34 : decode cX2_swap 34 = .ok (.ireturn, 1) := by decide +kernel
theorem dX2_swap_35 : decode cX2_swap 35 = .ok (.aload_n 0, 1) := by decide +kernel
theorem dX2_swap_36 : decode cX2_swap 36 = .ok (.invokevirtual 155, 3) := by decide +kernel
theorem dX2_swap_39 : decode cX2_swap 39 = .ok (.aload_n 0, 1) := by decide +kernel
theorem dX2_swap_40 : decode cX2_swap 40 = .ok (.getfield 31, 3) := by decide +kernel
theorem dX2_swap_43 : decode cX2_swap 43 = .ok (.iload_n 1, 1) := by decide +kernel
theorem dX2_swap_44 : decode cX2_swap 44 = .ok (.iload_n 2, 1) := by decide +kernel
theorem dX2_swap_45 : decode cX2_swap 45 = .ok (.invokestatic 166, 3) := by decide +kernel
theorem dX2_swap_48 : decode cX2_swap 48 = .ok (.aload_n 0, 1) := by decide +kernel
theorem dX2_swap_49 : decode cX2_swap 49 = .ok (.getfield 31, 3) := by decide +kernel
theorem dX2_swap_52 : decode cX2_swap 52 = .ok (.bipush 8, 2) := by decide +kernel
theorem dX2_swap_54 : decode cX2_swap 54 = .ok (.iload_n 1, 1) := by decide +kernel
theorem dX2_swap_55 : decode cX2_swap 55 = .ok (.iadd, 1) := by decide +kernel
theorem dX2_swap_56 : decode cX2_swap 56 = .ok (.iaload, 1) := by decide +kernel
theorem dX2_swap_57 : decode cX2_swap 57 = .ok (.ireturn, 1) := by decide +kernel
theorem dX2_isWord_0 : decode cX2_isWord 0 = .ok (.iload_n 2, 1) := by decide +kernel
theorem dX2_isWord_1 : decode cX2_isWord 1 = .ok (.ifCond .lt 18, 3) := by decide +kernel
theorem dX2_isWord_4 : decode cX2_isWord 4 = .ok (.iload_n 2, 1) := by decide +kernel
theorem dX2_isWord_5 : decode cX2_isWord 5 = .ok (.aload_n 0, 1) := by decide +kernel
theorem dX2_isWord_6 : decode cX2_isWord 6 = .ok (.getfield 25, 3) := by decide +kernel
theorem dX2_isWord_9 : decode cX2_isWord 9 = .ok (.iload_n 1, 1) := by decide +kernel
theorem dX2_isWord_10 : decode cX2_isWord 10 = .ok (.iaload, 1) := by decide +kernel
theorem dX2_isWord_11 : decode cX2_isWord 11 = .ok (.ishr, 1) := by decide +kernel
theorem dX2_isWord_12 : decode cX2_isWord 12 = .ok (.ifCond .ne 7, 3) := by decide +kernel
theorem dX2_isWord_15 : decode cX2_isWord 15 = .ok (.iconst 1, 1) := by decide +kernel
theorem dX2_isWord_16 : decode cX2_isWord 16 = .ok (.goto 4, 3) := by decide +kernel
theorem dX2_isWord_19 : decode cX2_isWord 19 = .ok (.iconst 0, 1) := by decide +kernel
theorem dX2_isWord_20 : decode cX2_isWord 20 = .ok (.ireturn, 1) := by decide +kernel
theorem dX2_word_0 : decode cX2_word 0 = .ok (.aload_n 0, 1) := by decide +kernel
theorem dX2_word_1 : decode cX2_word 1 = .ok (.iload_n 1, 1) := by decide +kernel
theorem dX2_word_2 : decode cX2_word 2 = .ok (.invokevirtual 145, 3) := by decide +kernel
theorem dX2_word_5 : decode cX2_word 5 = .ok (.ifCond .eq 12, 3) := by decide +kernel
theorem dX2_word_8 : decode cX2_word 8 = .ok (.aload_n 0, 1) := by decide +kernel
theorem dX2_word_9 : decode cX2_word 9 = .ok (.iload_n 1, 1) := by decide +kernel
theorem dX2_word_10 : decode cX2_word 10 = .ok (.iload_n 2, 1) := by decide +kernel
theorem dX2_word_11 : decode cX2_word 11 = .ok (.invokevirtual 170, 3) := by decide +kernel
theorem dX2_word_14 : decode cX2_word 14 = .ok (.ifCond .ne 5, 3) := by decide +kernel
theorem dX2_word_17 : decode cX2_word 17 = .ok (.iconst (-1), 1) := by decide +kernel
theorem dX2_word_18 : decode cX2_word 18 = .ok (.ireturn, 1) := by decide +kernel
theorem dX2_word_19 : decode cX2_word 19 = .ok (.aload_n 0, 1) := by decide +kernel
theorem dX2_word_20 : decode cX2_word 20 = .ok (.getfield 31, 3) := by decide +kernel
theorem dX2_word_23 : decode cX2_word 23 = .ok (.iconst 1, 1) := by decide +kernel
theorem dX2_word_24 : decode cX2_word 24 = .ok (.iload_n 1, 1) := by decide +kernel
theorem dX2_word_25 : decode cX2_word 25 = .ok (.iadd, 1) := by decide +kernel
theorem dX2_word_26 : decode cX2_word 26 = .ok (.iaload, 1) := by decide +kernel
theorem dX2_word_27 : decode cX2_word 27 = .ok (.istore_n 3, 1) := by decide +kernel
theorem dX2_word_28 : decode cX2_word 28 = .ok (.iload_n 3, 1) := by decide +kernel
theorem dX2_word_29 : decode cX2_word 29 = .ok (.iload_n 2, 1) := by decide +kernel
theorem dX2_word_30 : decode cX2_word 30 = .ok (.if_icmp .ne 6, 3) := by decide +kernel
theorem dX2_word_33 : decode cX2_word 33 = .ok (.bipush (-4), 2) := by decide +kernel
theorem dX2_word_35 : decode cX2_word 35 = .ok (.ireturn, 1) := by decide +kernel
theorem dX2_word_36 : decode cX2_word 36 = .ok (.aload_n 0, 1) := by decide +kernel
theorem dX2_word_37 : decode cX2_word 37 = .ok (.getfield 121, 3) := by decide +kernel
theorem dX2_word_40 : decode cX2_word 40 = .ok (.bipush 40, 2) := by decide +kernel
theorem dX2_word_42 : decode cX2_word 42 = .ok (.if_icmp .ne 6, 3) := by decide +kernel
theorem dX2_word_45 : decode cX2_word 45 = .ok (.bipush (-2), 2) := by decide +kernel
theorem dX2_word_47 : decode cX2_word 47 = .ok (.ireturn, 1) := by decide +kernel
theorem dX2_word_48 : decode cX2_word 48 = .ok (.aload_n 0, 1) := by decide +kernel
theorem dX2_word_49 : decode cX2_word 49 = .ok (.invokevirtual 155, 3) := by decide +kernel
theorem dX2_word_52 : decode cX2_word 52 = .ok (.aload_n 0, 1) := by decide +kernel
theorem dX2_word_53 : decode cX2_word 53 = .ok (.getfield 31, 3) := by decide +kernel
theorem dX2_word_56 : decode cX2_word 56 = .ok (.iconst 1, 1) := by decide +kernel
theorem dX2_word_57 : decode cX2_word 57 = .ok (.iload_n 1, 1) := by decide +kernel
theorem dX2_word_58 : decode cX2_word 58 = .ok (.iadd, 1) := by decide +kernel
theorem dX2_word_59 : decode cX2_word 59 = .ok (.iload_n 2, 1) := by decide +kernel
theorem dX2_word_60 : decode cX2_word 60 = .ok (.iastore, 1) := by decide +kernel
theorem dX2_word_61 : decode cX2_word 61 = .ok (.iload_n 3, 1) := by decide +kernel
theorem dX2_word_62 : decode cX2_word 62 = .ok (.ireturn, 1) := by decide +kernel
theorem dX2_undo_0 : decode cX2_undo 0 = .ok (.iload_n 1, 1) := by decide +kernel
theorem dX2_undo_1 : decode cX2_undo 1 = .ok (.iconst 0, 1) := by decide +kernel
theorem dX2_undo_2 : decode cX2_undo 2 = .ok (.aload_n 0, 1) := by decide +kernel
theorem dX2_undo_3 : decode cX2_undo 3 = .ok (.getfield 121, 3) := by decide +kernel
theorem dX2_undo_6 : decode cX2_undo 6 = .ok (.invokestatic 82, 3) := by decide +kernel
theorem dX2_undo_9 : decode cX2_undo 9 = .ok (.ifCond .ne 5, 3) := by decide +kernel
theorem dX2_undo_12 : decode cX2_undo 12 = .ok (.iconst (-1), 1) := by decide +kernel
theorem dX2_undo_13 : decode cX2_undo 13 = .ok (.ireturn, 1) := by decide +kernel
theorem dX2_undo_14 : decode cX2_undo 14 = .ok (.aload_n 0, 1) := by decide +kernel
theorem dX2_undo_15 : decode cX2_undo 15 = .ok (.getfield 121, 3) := by decide +kernel
theorem dX2_undo_18 : decode cX2_undo 18 = .ok (.iload_n 1, 1) := by decide +kernel
theorem dX2_undo_19 : decode cX2_undo 19 = .ok (.isub, 1) := by decide +kernel
theorem dX2_undo_20 : decode cX2_undo 20 = .ok (.istore_n 2, 1) := by decide +kernel
theorem dX2_undo_21 : decode cX2_undo 21 = .ok (.iload_n 2, 1) := by decide +kernel
theorem dX2_undo_22 : decode cX2_undo 22 = .ok (.ifCond .le 21, 3) := by decide +kernel
theorem dX2_undo_25 : decode cX2_undo 25 = .ok (.aload_n 0, 1) := by decide +kernel
theorem dX2_undo_26 : decode cX2_undo 26 = .ok (.getfield 37, 3) := by decide +kernel
theorem dX2_undo_29 : decode cX2_undo 29 = .ok (.bipush 15, 2) := by decide +kernel
theorem dX2_undo_31 : decode cX2_undo 31 = .ok (.iload_n 1, 1) := by decide +kernel
theorem dX2_undo_32 : decode cX2_undo 32 = .ok (.imul, 1) := by decide +kernel
theorem dX2_undo_33 : decode cX2_undo 33 = .ok (.aload_n 0, 1) := by decide +kernel
theorem dX2_undo_34 : decode cX2_undo 34 = .ok (.getfield 31, 3) := by decide +kernel
theorem dX2_undo_37 : decode cX2_undo 37 = .ok (.iconst 0, 1) := by decide +kernel
theorem dX2_undo_38 : decode cX2_undo 38 = .ok (.bipush 15, 2) := by decide +kernel
theorem dX2_undo_40 : decode cX2_undo 40 = .ok (.invokestatic 117, 3) := by decide +kernel
theorem dX2_undo_43 : decode cX2_undo 43 = .ok (.aload_n 0, 1) := by decide +kernel
theorem dX2_undo_44 : decode cX2_undo 44 = .ok (.iload_n 1, 1) := by decide +kernel
theorem dX2_undo_45 : decode cX2_undo 45 = .ok (.putfield 121, 3) := by decide +kernel
theorem dX2_undo_48 : decode cX2_undo 48 = .ok (.iload_n 2, 1) := by decide +kernel
theorem dX2_undo_49 : decode cX2_undo 49 = .ok (.ireturn, 1) := by decide +kernel
theorem dX2_keep_0 : decode cX2_keep 0 = .ok (.iload_n 1, 1) := by decide +kernel
theorem dX2_keep_1 : decode cX2_keep 1 = .ok (.iconst 0, 1) := by decide +kernel
theorem dX2_keep_2 : decode cX2_keep 2 = .ok (.iconst 2, 1) := by decide +kernel
theorem dX2_keep_3 : decode cX2_keep 3 = .ok (.invokestatic 82, 3) := by decide +kernel
theorem dX2_keep_6 : decode cX2_keep 6 = .ok (.ifCond .ne 5, 3) := by decide +kernel
theorem dX2_keep_9 : decode cX2_keep 9 = .ok (.iconst (-1), 1) := by decide +kernel
theorem dX2_keep_10 : decode cX2_keep 10 = .ok (.ireturn, 1) := by decide +kernel
theorem dX2_keep_11 : decode cX2_keep 11 = .ok (.aload_n 0, 1) := by decide +kernel
theorem dX2_keep_12 : decode cX2_keep 12 = .ok (.getfield 79, 3) := by decide +kernel
theorem dX2_keep_15 : decode cX2_keep 15 = .ok (.ifCond .ne 6, 3) := by decide +kernel
theorem dX2_keep_18 : decode cX2_keep 18 = .ok (.bipush (-4), 2) := by decide +kernel
theorem dX2_keep_20 : decode cX2_keep 20 = .ok (.ireturn, 1) := by decide +kernel
theorem dX2_keep_21 : decode cX2_keep 21 = .ok (.sipush 616, 3) := by decide +kernel
theorem dX2_keep_24 : decode cX2_keep 24 = .ok (.iload_n 1, 1) := by decide +kernel
theorem dX2_keep_25 : decode cX2_keep 25 = .ok (.imul, 1) := by decide +kernel
theorem dX2_keep_26 : decode cX2_keep 26 = .ok (.istore_n 2, 1) := by decide +kernel
theorem dX2_keep_27 : decode cX2_keep 27 = .ok (.aload_n 0, 1) := by decide +kernel
theorem dX2_keep_28 : decode cX2_keep 28 = .ok (.getfield 43, 3) := by decide +kernel
theorem dX2_keep_31 : decode cX2_keep 31 = .ok (.iload_n 1, 1) := by decide +kernel
theorem dX2_keep_32 : decode cX2_keep 32 = .ok (.iconst 1, 1) := by decide +kernel
theorem dX2_keep_33 : decode cX2_keep 33 = .ok (.bastore, 1) := by decide +kernel
theorem dX2_keep_34 : decode cX2_keep 34 = .ok (.aload_n 0, 1) := by decide +kernel
theorem dX2_keep_35 : decode cX2_keep 35 = .ok (.getfield 40, 3) := by decide +kernel
theorem dX2_keep_38 : decode cX2_keep 38 = .ok (.iload_n 2, 1) := by decide +kernel
theorem dX2_keep_39 : decode cX2_keep 39 = .ok (.aload_n 0, 1) := by decide +kernel
theorem dX2_keep_40 : decode cX2_keep 40 = .ok (.getfield 121, 3) := by decide +kernel
theorem dX2_keep_43 : decode cX2_keep 43 = .ok (.iastore, 1) := by decide +kernel
theorem dX2_keep_44 : decode cX2_keep 44 = .ok (.aload_n 0, 1) := by decide +kernel
theorem dX2_keep_45 : decode cX2_keep 45 = .ok (.getfield 31, 3) := by decide +kernel
theorem dX2_keep_48 : decode cX2_keep 48 = .ok (.iconst 0, 1) := by decide +kernel
theorem dX2_keep_49 : decode cX2_keep 49 = .ok (.aload_n 0, 1) := by decide +kernel
theorem dX2_keep_50 : decode cX2_keep 50 = .ok (.getfield 40, 3) := by decide +kernel
theorem dX2_keep_53 : decode cX2_keep 53 = .ok (.iload_n 2, 1) := by decide +kernel
theorem dX2_keep_54 : decode cX2_keep 54 = .ok (.iconst 1, 1) := by decide +kernel
theorem dX2_keep_55 : decode cX2_keep 55 = .ok (.iadd, 1) := by decide +kernel
theorem dX2_keep_56 : decode cX2_keep 56 = .ok (.bipush 15, 2) := by decide +kernel
theorem dX2_keep_58 : decode cX2_keep 58 = .ok (.invokestatic 117, 3) := by decide +kernel
theorem dX2_keep_61 : decode cX2_keep 61 = .ok (.aload_n 0, 1) := by decide +kernel
theorem dX2_keep_62 : decode cX2_keep 62 = .ok (.getfield 37, 3) := by decide +kernel
theorem dX2_keep_65 : decode cX2_keep 65 = .ok (.iconst 0, 1) := by decide +kernel
theorem dX2_keep_66 : decode cX2_keep 66 = .ok (.aload_n 0, 1) := by decide +kernel
theorem dX2_keep_67 : decode cX2_keep 67 = .ok (.getfield 40, 3) := by decide +kernel
theorem dX2_keep_70 : decode cX2_keep 70 = .ok (.iload_n 2, 1) := by decide +kernel
theorem dX2_keep_71 : decode cX2_keep 71 = .ok (.iconst 1, 1) := by decide +kernel
theorem dX2_keep_72 : decode cX2_keep 72 = .ok (.iadd, 1) := by decide +kernel
theorem dX2_keep_73 : decode cX2_keep 73 = .ok (.bipush 15, 2) := by decide +kernel
theorem dX2_keep_75 : decode cX2_keep 75 = .ok (.iadd, 1) := by decide +kernel
theorem dX2_keep_76 : decode cX2_keep 76 = .ok (.sipush 600, 3) := by decide +kernel
theorem dX2_keep_79 : decode cX2_keep 79 = .ok (.invokestatic 117, 3) := by decide +kernel
theorem dX2_keep_82 : decode cX2_keep 82 = .ok (.aload_n 0, 1) := by decide +kernel
theorem dX2_keep_83 : decode cX2_keep 83 = .ok (.getfield 121, 3) := by decide +kernel
theorem dX2_keep_86 : decode cX2_keep 86 = .ok (.ireturn, 1) := by decide +kernel
theorem dX2_on_0 : decode cX2_on 0 = .ok (.iload_n 1, 1) := by decide +kernel
theorem dX2_on_1 : decode cX2_on 1 = .ok (.iconst 0, 1) := by decide +kernel
theorem dX2_on_2 : decode cX2_on 2 = .ok (.iconst 2, 1) := by decide +kernel
theorem dX2_on_3 : decode cX2_on 3 = .ok (.invokestatic 82, 3) := by decide +kernel
theorem dX2_on_6 : decode cX2_on 6 = .ok (.ifCond .ne 5, 3) := by decide +kernel
theorem dX2_on_9 : decode cX2_on 9 = .ok (.iconst (-1), 1) := by decide +kernel
theorem dX2_on_10 : decode cX2_on 10 = .ok (.ireturn, 1) := by decide +kernel
theorem dX2_on_11 : decode cX2_on 11 = .ok (.aload_n 0, 1) := by decide +kernel
theorem dX2_on_12 : decode cX2_on 12 = .ok (.getfield 43, 3) := by decide +kernel
theorem dX2_on_15 : decode cX2_on 15 = .ok (.iload_n 1, 1) := by decide +kernel
theorem dX2_on_16 : decode cX2_on 16 = .ok (.baload, 1) := by decide +kernel
theorem dX2_on_17 : decode cX2_on 17 = .ok (.ifCond .ne 9, 3) := by decide +kernel
theorem dX2_on_20 : decode cX2_on 20 = .ok (.aload_n 0, 1) := by decide +kernel
theorem dX2_on_21 : decode cX2_on 21 = .ok (.iconst 1, 1) := by decide +kernel
theorem dX2_on_22 : decode cX2_on 22 = .ok (.invokevirtual 90, 3) := by decide +kernel
theorem dX2_on_25 : decode cX2_on 25 = .ok (.ireturn, 1) := by decide +kernel
theorem dX2_on_26 : decode cX2_on 26 = .ok (.sipush 616, 3) := by decide +kernel
theorem dX2_on_29 : decode cX2_on 29 = .ok (.iload_n 1, 1) := by decide +kernel
theorem dX2_on_30 : decode cX2_on 30 = .ok (.imul, 1) := by decide +kernel
theorem dX2_on_31 : decode cX2_on 31 = .ok (.istore_n 2, 1) := by decide +kernel
theorem dX2_on_32 : decode cX2_on 32 = .ok (.aload_n 0, 1) := by decide +kernel
theorem dX2_on_33 : decode cX2_on 33 = .ok (.aload_n 0, 1) := by decide +kernel
theorem dX2_on_34 : decode cX2_on 34 = .ok (.getfield 40, 3) := by decide +kernel
theorem dX2_on_37 : decode cX2_on 37 = .ok (.iload_n 2, 1) := by decide +kernel
theorem dX2_on_38 : decode cX2_on 38 = .ok (.iaload, 1) := by decide +kernel
theorem dX2_on_39 : decode cX2_on 39 = .ok (.putfield 121, 3) := by decide +kernel
theorem dX2_on_42 : decode cX2_on 42 = .ok (.aload_n 0, 1) := by decide +kernel
theorem dX2_on_43 : decode cX2_on 43 = .ok (.getfield 40, 3) := by decide +kernel
theorem dX2_on_46 : decode cX2_on 46 = .ok (.iload_n 2, 1) := by decide +kernel
theorem dX2_on_47 : decode cX2_on 47 = .ok (.iconst 1, 1) := by decide +kernel
theorem dX2_on_48 : decode cX2_on 48 = .ok (.iadd, 1) := by decide +kernel
theorem dX2_on_49 : decode cX2_on 49 = .ok (.aload_n 0, 1) := by decide +kernel
theorem dX2_on_50 : decode cX2_on 50 = .ok (.getfield 31, 3) := by decide +kernel
theorem dX2_on_53 : decode cX2_on 53 = .ok (.iconst 0, 1) := by decide +kernel
theorem dX2_on_54 : decode cX2_on 54 = .ok (.bipush 15, 2) := by decide +kernel
theorem dX2_on_56 : decode cX2_on 56 = .ok (.invokestatic 117, 3) := by decide +kernel
theorem dX2_on_59 : decode cX2_on 59 = .ok (.aload_n 0, 1) := by decide +kernel
theorem dX2_on_60 : decode cX2_on 60 = .ok (.getfield 40, 3) := by decide +kernel
theorem dX2_on_63 : decode cX2_on 63 = .ok (.iload_n 2, 1) := by decide +kernel
theorem dX2_on_64 : decode cX2_on 64 = .ok (.iconst 1, 1) := by decide +kernel
theorem dX2_on_65 : decode cX2_on 65 = .ok (.iadd, 1) := by decide +kernel
theorem dX2_on_66 : decode cX2_on 66 = .ok (.bipush 15, 2) := by decide +kernel
theorem dX2_on_68 : decode cX2_on 68 = .ok (.iadd, 1) := by decide +kernel
theorem dX2_on_69 : decode cX2_on 69 = .ok (.aload_n 0, 1) := by decide +kernel
theorem dX2_on_70 : decode cX2_on 70 = .ok (.getfield 37, 3) := by decide +kernel
theorem dX2_on_73 : decode cX2_on 73 = .ok (.iconst 0, 1) := by decide +kernel
theorem dX2_on_74 : decode cX2_on 74 = .ok (.sipush 600, 3) := by decide +kernel
theorem dX2_on_77 : decode cX2_on 77 = .ok (.invokestatic 117, 3) := by decide +kernel
theorem dX2_on_80 : decode cX2_on 80 = .ok (.aload_n 0, 1) := by decide +kernel
theorem dX2_on_81 : decode cX2_on 81 = .ok (.getfield 121, 3) := by decide +kernel
theorem dX2_on_84 : decode cX2_on 84 = .ok (.ireturn, 1) := by decide +kernel
theorem dX2_asItIs_0 : decode cX2_asItIs 0 = .ok (.aload_n 0, 1) := by decide +kernel
theorem dX2_asItIs_1 : decode cX2_asItIs 1 = .ok (.getfield 31, 3) := by decide +kernel
theorem dX2_asItIs_4 : decode cX2_asItIs 4 = .ok (.iconst 0, 1) := by decide +kernel
theorem dX2_asItIs_5 : decode cX2_asItIs 5 = .ok (.aload_n 0, 1) := by decide +kernel
theorem dX2_asItIs_6 : decode cX2_asItIs 6 = .ok (.getfield 34, 3) := by decide +kernel
theorem dX2_asItIs_9 : decode cX2_asItIs 9 = .ok (.iconst 0, 1) := by decide +kernel
theorem dX2_asItIs_10 : decode cX2_asItIs 10 = .ok (.bipush 15, 2) := by decide +kernel
theorem dX2_asItIs_12 : decode cX2_asItIs 12 = .ok (.invokestatic 117, 3) := by decide +kernel
theorem dX2_asItIs_15 : decode cX2_asItIs 15 = .ok (.return_, 1) := by decide +kernel
theorem dX2_goes_0 : decode cX2_goes 0 = .ok (.iconst 0, 1) := by decide +kernel
theorem dX2_goes_1 : decode cX2_goes 1 = .ok (.istore_n 2, 1) := by decide +kernel
theorem dX2_goes_2 : decode cX2_goes 2 = .ok (.iload_n 2, 1) := by decide +kernel
theorem dX2_goes_3 : decode cX2_goes 3 = .ok (.iload_n 1, 1) := by decide +kernel
theorem dX2_goes_4 : decode cX2_goes 4 = .ok (.if_icmp .ge 17, 3) := by decide +kernel
theorem dX2_goes_7 : decode cX2_goes 7 = .ok (.aload_n 0, 1) := by decide +kernel
theorem dX2_goes_8 : decode cX2_goes 8 = .ok (.aload_n 0, 1) := by decide +kernel
theorem dX2_goes_9 : decode cX2_goes 9 = .ok (.getfield 34, 3) := by decide +kernel
theorem dX2_goes_12 : decode cX2_goes 12 = .ok (.invokevirtual 158, 3) := by decide +kernel
theorem dX2_goes_15 : decode cX2_goes 15 = .ok (.iinc 2 1, 3) := by decide +kernel
theorem dX2_goes_18 : decode cX2_goes 18 = .ok (.goto (-16), 3) := by decide +kernel
theorem dX2_goes_21 : decode cX2_goes 21 = .ok (.return_, 1) := by decide +kernel
theorem dX2_later_0 : decode cX2_later 0 = .ok (.aload_n 0, 1) := by decide +kernel
theorem dX2_later_1 : decode cX2_later 1 = .ok (.iload_n 1, 1) := by decide +kernel
theorem dX2_later_2 : decode cX2_later 2 = .ok (.invokevirtual 145, 3) := by decide +kernel
theorem dX2_later_5 : decode cX2_later 5 = .ok (.ifCond .eq 13, 3) := by decide +kernel
theorem dX2_later_8 : decode cX2_later 8 = .ok (.iload_n 2, 1) := by decide +kernel
theorem dX2_later_9 : decode cX2_later 9 = .ok (.iconst 0, 1) := by decide +kernel
theorem dX2_later_10 : decode cX2_later 10 = .ok (.bipush 60, 2) := by decide +kernel
theorem dX2_later_12 : decode cX2_later 12 = .ok (.invokestatic 82, 3) := by decide +kernel
theorem dX2_later_15 : decode cX2_later 15 = .ok (.ifCond .ne 5, 3) := by decide +kernel
theorem dX2_later_18 : decode cX2_later 18 = .ok (.iconst (-1), 1) := by decide +kernel
theorem dX2_later_19 : decode cX2_later 19 = .ok (.ireturn, 1) := by decide +kernel
theorem dX2_later_20 : decode cX2_later 20 = .ok (.aload_n 0, 1) := by decide +kernel
theorem dX2_later_21 : decode cX2_later 21 = .ok (.invokevirtual 173, 3) := by decide +kernel
theorem dX2_later_24 : decode cX2_later 24 = .ok (.aload_n 0, 1) := by decide +kernel
theorem dX2_later_25 : decode cX2_later 25 = .ok (.iload_n 2, 1) := by decide +kernel
theorem dX2_later_26 : decode cX2_later 26 = .ok (.invokevirtual 176, 3) := by decide +kernel
theorem dX2_later_29 : decode cX2_later 29 = .ok (.aload_n 0, 1) := by decide +kernel
theorem dX2_later_30 : decode cX2_later 30 = .ok (.aload_n 0, 1) := by decide +kernel
theorem dX2_later_31 : decode cX2_later 31 = .ok (.aload_n 0, 1) := by decide +kernel
theorem dX2_later_32 : decode cX2_later 32 = .ok (.getfield 34, 3) := by decide +kernel
theorem dX2_later_35 : decode cX2_later 35 = .ok (.invokevirtual 162, 3) := by decide +kernel
theorem dX2_later_38 : decode cX2_later 38 = .ok (.aload_n 0, 1) := by decide +kernel
theorem dX2_later_39 : decode cX2_later 39 = .ok (.getfield 34, 3) := by decide +kernel
theorem dX2_later_42 : decode cX2_later 42 = .ok (.iconst 1, 1) := by decide +kernel
theorem dX2_later_43 : decode cX2_later 43 = .ok (.iload_n 1, 1) := by decide +kernel
theorem dX2_later_44 : decode cX2_later 44 = .ok (.iadd, 1) := by decide +kernel
theorem dX2_later_45 : decode cX2_later 45 = .ok (.iaload, 1) := by decide +kernel
theorem dX2_later_46 : decode cX2_later 46 = .ok (.invokevirtual 102, 3) := by decide +kernel
theorem dX2_later_49 : decode cX2_later 49 = .ok (.ireturn, 1) := by decide +kernel
theorem dX2_hears_0 : decode cX2_hears 0 = .ok (.aload_n 0, 1) := by decide +kernel
theorem dX2_hears_1 : decode cX2_hears 1 = .ok (.iload_n 1, 1) := by decide +kernel
theorem dX2_hears_2 : decode cX2_hears 2 = .ok (.invokevirtual 145, 3) := by decide +kernel
theorem dX2_hears_5 : decode cX2_hears 5 = .ok (.ifCond .eq 20, 3) := by decide +kernel
theorem dX2_hears_8 : decode cX2_hears 8 = .ok (.iload_n 2, 1) := by decide +kernel
theorem dX2_hears_9 : decode cX2_hears 9 = .ok (.iconst 1, 1) := by decide +kernel
theorem dX2_hears_10 : decode cX2_hears 10 = .ok (.bipush 20, 2) := by decide +kernel
theorem dX2_hears_12 : decode cX2_hears 12 = .ok (.invokestatic 82, 3) := by decide +kernel
theorem dX2_hears_15 : decode cX2_hears 15 = .ok (.ifCond .eq 10, 3) := by decide +kernel
theorem dX2_hears_18 : decode cX2_hears 18 = .ok (.iload_n 3, 1) := by decide +kernel
theorem dX2_hears_19 : decode cX2_hears 19 = .ok (.invokestatic 86, 3) := by decide +kernel
theorem dX2_hears_22 : decode cX2_hears 22 = .ok (.ifCond .ne 5, 3) := by decide +kernel
theorem dX2_hears_25 : decode cX2_hears 25 = .ok (.iconst (-1), 1) := by decide +kernel
theorem dX2_hears_26 : decode cX2_hears 26 = .ok (.ireturn, 1) := by decide +kernel
theorem dX2_hears_27 : decode cX2_hears 27 = .ok (.iconst 0, 1) := by decide +kernel
theorem dX2_hears_28 : decode cX2_hears 28 = .ok (.istore 4, 2) := by decide +kernel
theorem dX2_hears_30 : decode cX2_hears 30 = .ok (.aload_n 0, 1) := by decide +kernel
theorem dX2_hears_31 : decode cX2_hears 31 = .ok (.invokevirtual 173, 3) := by decide +kernel
theorem dX2_hears_34 : decode cX2_hears 34 = .ok (.aload_n 0, 1) := by decide +kernel
theorem dX2_hears_35 : decode cX2_hears 35 = .ok (.iload_n 3, 1) := by decide +kernel
theorem dX2_hears_36 : decode cX2_hears 36 = .ok (.iload_n 2, 1) := by decide +kernel
theorem dX2_hears_37 : decode cX2_hears 37 = .ok (.invokevirtual 94, 3) := by decide +kernel
theorem dX2_hears_40 : decode cX2_hears 40 = .ok (.iconst 0, 1) := by decide +kernel
theorem dX2_hears_41 : decode cX2_hears 41 = .ok (.istore 5, 2) := by decide +kernel
theorem dX2_hears_43 : decode cX2_hears 43 = .ok (.iload 5, 2) := by decide +kernel
theorem dX2_hears_45 : decode cX2_hears 45 = .ok (.iload_n 2, 1) := by decide +kernel
theorem dX2_hears_46 : decode cX2_hears 46 = .ok (.if_icmp .ge 66, 3) := by decide +kernel
theorem dX2_hears_49 : decode cX2_hears 49 = .ok (.aload_n 0, 1) := by decide +kernel
theorem dX2_hears_50 : decode cX2_hears 50 = .ok (.aload_n 0, 1) := by decide +kernel
theorem dX2_hears_51 : decode cX2_hears 51 = .ok (.getfield 34, 3) := by decide +kernel
theorem dX2_hears_54 : decode cX2_hears 54 = .ok (.iload_n 1, 1) := by decide +kernel
theorem dX2_hears_55 : decode cX2_hears 55 = .ok (.invokevirtual 128, 3) := by decide +kernel
theorem dX2_hears_58 : decode cX2_hears 58 = .ok (.istore 6, 2) := by decide +kernel
theorem dX2_hears_60 : decode cX2_hears 60 = .ok (.aload_n 0, 1) := by decide +kernel
theorem dX2_hears_61 : decode cX2_hears 61 = .ok (.aload_n 0, 1) := by decide +kernel
theorem dX2_hears_62 : decode cX2_hears 62 = .ok (.getfield 34, 3) := by decide +kernel
theorem dX2_hears_65 : decode cX2_hears 65 = .ok (.iload_n 1, 1) := by decide +kernel
theorem dX2_hears_66 : decode cX2_hears 66 = .ok (.invokevirtual 135, 3) := by decide +kernel
theorem dX2_hears_69 : decode cX2_hears 69 = .ok (.istore 7, 2) := by decide +kernel
theorem dX2_hears_71 : decode cX2_hears 71 = .ok (.aload_n 0, 1) := by decide +kernel
theorem dX2_hears_72 : decode cX2_hears 72 = .ok (.getfield 13, 3) := by decide +kernel
theorem dX2_hears_75 : decode cX2_hears 75 = .ok (.bipush 40, 2) := by decide +kernel
theorem dX2_hears_77 : decode cX2_hears 77 = .ok (.iload_n 3, 1) := by decide +kernel
theorem dX2_hears_78 : decode cX2_hears 78 = .ok (.imul, 1) := by decide +kernel
theorem dX2_hears_79 : decode cX2_hears 79 = .ok (.iload 5, 2) := by decide +kernel
theorem dX2_hears_81 : decode cX2_hears 81 = .ok (.iadd, 1) := by decide +kernel
theorem dX2_hears_82 : decode cX2_hears 82 = .ok (.iload 6, 2) := by decide +kernel
theorem dX2_hears_84 : decode cX2_hears 84 = .ok (.ifCond .eq 8, 3) := by decide +kernel
theorem dX2_hears_87 : decode cX2_hears 87 = .ok (.iload 7, 2) := by decide +kernel
theorem dX2_hears_89 : decode cX2_hears 89 = .ok (.goto 4, 3) := by decide +kernel
theorem dX2_hears_92 : decode cX2_hears 92 = .ok (.iconst (-1), 1) := by decide +kernel
theorem dX2_hears_93 : decode cX2_hears 93 = .ok (.iastore, 1) := by decide +kernel
theorem dX2_hears_94 : decode cX2_hears 94 = .ok (.iload 4, 2) := by decide +kernel
theorem dX2_hears_96 : decode cX2_hears 96 = .ok (.iload 7, 2) := by decide +kernel
theorem dX2_hears_98 : decode cX2_hears 98 = .ok (.iadd, 1) := by decide +kernel
theorem dX2_hears_99 : decode cX2_hears 99 = .ok (.istore 4, 2) := by decide +kernel
theorem dX2_hears_101 : decode cX2_hears 101 = .ok (.aload_n 0, 1) := by decide +kernel
theorem dX2_hears_102 : decode cX2_hears 102 = .ok (.iconst 1, 1) := by decide +kernel
theorem dX2_hears_103 : decode cX2_hears 103 = .ok (.invokevirtual 176, 3) := by decide +kernel
theorem dX2_hears_106 : decode cX2_hears 106 = .ok (.iinc 5 1, 3) := by decide +kernel
theorem dX2_hears_109 : decode cX2_hears 109 = .ok (.goto (-66), 3) := by decide +kernel
theorem dX2_hears_112 : decode cX2_hears 112 = .ok (.iload 4, 2) := by decide +kernel
theorem dX2_hears_114 : decode cX2_hears 114 = .ok (.ireturn, 1) := by decide +kernel
theorem dX2_finds_0 : decode cX2_finds 0 = .ok (.aload_n 0, 1) := by decide +kernel
theorem dX2_finds_1 : decode cX2_finds 1 = .ok (.iload_n 1, 1) := by decide +kernel
theorem dX2_finds_2 : decode cX2_finds 2 = .ok (.invokevirtual 145, 3) := by decide +kernel
theorem dX2_finds_5 : decode cX2_finds 5 = .ok (.ifCond .eq 23, 3) := by decide +kernel
theorem dX2_finds_8 : decode cX2_finds 8 = .ok (.iload_n 3, 1) := by decide +kernel
theorem dX2_finds_9 : decode cX2_finds 9 = .ok (.iconst 1, 1) := by decide +kernel
theorem dX2_finds_10 : decode cX2_finds 10 = .ok (.bipush 8, 2) := by decide +kernel
theorem dX2_finds_12 : decode cX2_finds 12 = .ok (.invokestatic 82, 3) := by decide +kernel
theorem dX2_finds_15 : decode cX2_finds 15 = .ok (.ifCond .eq 13, 3) := by decide +kernel
theorem dX2_finds_18 : decode cX2_finds 18 = .ok (.iload_n 2, 1) := by decide +kernel
theorem dX2_finds_19 : decode cX2_finds 19 = .ok (.ifCond .lt 9, 3) := by decide +kernel
theorem dX2_finds_22 : decode cX2_finds 22 = .ok (.iload_n 2, 1) := by decide +kernel
theorem dX2_finds_23 : decode cX2_finds 23 = .ok (.iload_n 3, 1) := by decide +kernel
theorem dX2_finds_24 : decode cX2_finds 24 = .ok (.ishr, 1) := by decide +kernel
theorem dX2_finds_25 : decode cX2_finds 25 = .ok (.ifCond .eq 5, 3) := by decide +kernel
theorem dX2_finds_28 : decode cX2_finds 28 = .ok (.iconst (-1), 1) := by decide +kernel
theorem dX2_finds_29 : decode cX2_finds 29 = .ok (.ireturn, 1) := by decide +kernel
theorem dX2_finds_30 : decode cX2_finds 30 = .ok (.iconst 0, 1) := by decide +kernel
theorem dX2_finds_31 : decode cX2_finds 31 = .ok (.istore 4, 2) := by decide +kernel
theorem dX2_finds_33 : decode cX2_finds 33 = .ok (.iconst 0, 1) := by decide +kernel
theorem dX2_finds_34 : decode cX2_finds 34 = .ok (.istore 5, 2) := by decide +kernel
theorem dX2_finds_36 : decode cX2_finds 36 = .ok (.iconst 0, 1) := by decide +kernel
theorem dX2_finds_37 : decode cX2_finds 37 = .ok (.istore 6, 2) := by decide +kernel
theorem dX2_finds_39 : decode cX2_finds 39 = .ok (.aload_n 0, 1) := by decide +kernel
theorem dX2_finds_40 : decode cX2_finds 40 = .ok (.invokevirtual 173, 3) := by decide +kernel
theorem dX2_finds_43 : decode cX2_finds 43 = .ok (.iconst 1, 1) := by decide +kernel
theorem dX2_finds_44 : decode cX2_finds 44 = .ok (.istore 7, 2) := by decide +kernel
theorem dX2_finds_46 : decode cX2_finds 46 = .ok (.iload 7, 2) := by decide +kernel
theorem dX2_finds_48 : decode cX2_finds 48 = .ok (.bipush 60, 2) := by decide +kernel
theorem dX2_finds_50 : decode cX2_finds 50 = .ok (.if_icmp .gt 90, 3) := by decide +kernel
theorem dX2_finds_53 : decode cX2_finds 53 = .ok (.aload_n 0, 1) := by decide +kernel
theorem dX2_finds_54 : decode cX2_finds 54 = .ok (.aload_n 0, 1) := by decide +kernel
theorem dX2_finds_55 : decode cX2_finds 55 = .ok (.getfield 34, 3) := by decide +kernel
theorem dX2_finds_58 : decode cX2_finds 58 = .ok (.iload_n 1, 1) := by decide +kernel
theorem dX2_finds_59 : decode cX2_finds 59 = .ok (.invokevirtual 128, 3) := by decide +kernel
theorem dX2_finds_62 : decode cX2_finds 62 = .ok (.istore 8, 2) := by decide +kernel
theorem dX2_finds_64 : decode cX2_finds 64 = .ok (.aload_n 0, 1) := by decide +kernel
theorem dX2_finds_65 : decode cX2_finds 65 = .ok (.aload_n 0, 1) := by decide +kernel
theorem dX2_finds_66 : decode cX2_finds 66 = .ok (.getfield 34, 3) := by decide +kernel
theorem dX2_finds_69 : decode cX2_finds 69 = .ok (.iload_n 1, 1) := by decide +kernel
theorem dX2_finds_70 : decode cX2_finds 70 = .ok (.invokevirtual 135, 3) := by decide +kernel
theorem dX2_finds_73 : decode cX2_finds 73 = .ok (.istore 9, 2) := by decide +kernel
theorem dX2_finds_75 : decode cX2_finds 75 = .ok (.aload_n 0, 1) := by decide +kernel
theorem dX2_finds_76 : decode cX2_finds 76 = .ok (.iconst 1, 1) := by decide +kernel
theorem dX2_finds_77 : decode cX2_finds 77 = .ok (.invokevirtual 176, 3) := by decide +kernel
theorem dX2_finds_80 : decode cX2_finds 80 = .ok (.iload 8, 2) := by decide +kernel
theorem dX2_finds_82 : decode cX2_finds 82 = .ok (.ifCond .eq 26, 3) := by decide +kernel
theorem dX2_finds_85 : decode cX2_finds 85 = .ok (.iload 4, 2) := by decide +kernel
theorem dX2_finds_87 : decode cX2_finds 87 = .ok (.iconst 1, 1) := by decide +kernel
theorem dX2_finds_88 : decode cX2_finds 88 = .ok (.ishr, 1) := by decide +kernel
theorem dX2_finds_89 : decode cX2_finds 89 = .ok (.iload 9, 2) := by decide +kernel
theorem dX2_finds_91 : decode cX2_finds 91 = .ok (.iload_n 3, 1) := by decide +kernel
theorem dX2_finds_92 : decode cX2_finds 92 = .ok (.iconst 1, 1) := by decide +kernel
theorem dX2_finds_93 : decode cX2_finds 93 = .ok (.isub, 1) := by decide +kernel
theorem dX2_finds_94 : decode cX2_finds 94 = .ok (.ishl, 1) := by decide +kernel
theorem dX2_finds_95 : decode cX2_finds 95 = .ok (.ior, 1) := by decide +kernel
theorem dX2_finds_96 : decode cX2_finds 96 = .ok (.istore 4, 2) := by decide +kernel
theorem dX2_finds_98 : decode cX2_finds 98 = .ok (.iinc 5 1, 3) := by decide +kernel
theorem dX2_finds_101 : decode cX2_finds 101 = .ok (.iload 6, 2) := by decide +kernel
theorem dX2_finds_103 : decode cX2_finds 103 = .ok (.iload 9, 2) := by decide +kernel
theorem dX2_finds_105 : decode cX2_finds 105 = .ok (.iadd, 1) := by decide +kernel
theorem dX2_finds_106 : decode cX2_finds 106 = .ok (.istore 6, 2) := by decide +kernel
theorem dX2_finds_108 : decode cX2_finds 108 = .ok (.iload 8, 2) := by decide +kernel
theorem dX2_finds_110 : decode cX2_finds 110 = .ok (.ifCond .eq 24, 3) := by decide +kernel
theorem dX2_finds_113 : decode cX2_finds 113 = .ok (.iload 5, 2) := by decide +kernel
theorem dX2_finds_115 : decode cX2_finds 115 = .ok (.iload_n 3, 1) := by decide +kernel
theorem dX2_finds_116 : decode cX2_finds 116 = .ok (.if_icmp .lt 18, 3) := by decide +kernel
theorem dX2_finds_119 : decode cX2_finds 119 = .ok (.iload 4, 2) := by decide +kernel
theorem dX2_finds_121 : decode cX2_finds 121 = .ok (.iload_n 2, 1) := by decide +kernel
theorem dX2_finds_122 : decode cX2_finds 122 = .ok (.if_icmp .ne 12, 3) := by decide +kernel
theorem dX2_finds_125 : decode cX2_finds 125 = .ok (.aload_n 0, 1) := by decide +kernel
theorem dX2_finds_126 : decode cX2_finds 126 = .ok (.iload 6, 2) := by decide +kernel
theorem dX2_finds_128 : decode cX2_finds 128 = .ok (.iload 7, 2) := by decide +kernel
theorem dX2_finds_130 : decode cX2_finds 130 = .ok (.invokevirtual 102, 3) := by decide +kernel
theorem dX2_finds_133 : decode cX2_finds 133 = .ok (.ireturn, 1) := by decide +kernel
theorem dX2_finds_134 : decode cX2_finds 134 = .ok (.iinc 7 1, 3) := by decide +kernel
theorem dX2_finds_137 : decode cX2_finds 137 = .ok (.goto (-91), 3) := by decide +kernel
theorem dX2_finds_140 : decode cX2_finds 140 = .ok (.bipush (-9), 2) := by decide +kernel
theorem dX2_finds_142 : decode cX2_finds 142 = .ok (.ireturn, 1) := by decide +kernel
theorem dX2_round_0 : decode cX2_round 0 = .ok (.aload_n 0, 1) := by decide +kernel
theorem dX2_round_1 : decode cX2_round 1 = .ok (.getfield 79, 3) := by decide +kernel
theorem dX2_round_4 : decode cX2_round 4 = .ok (.ifCond .ne 6, 3) := by decide +kernel
theorem dX2_round_7 : decode cX2_round 7 = .ok (.bipush (-4), 2) := by decide +kernel
theorem dX2_round_9 : decode cX2_round 9 = .ok (.ireturn, 1) := by decide +kernel
theorem dX2_round_10 : decode cX2_round 10 = .ok (.aload_n 0, 1) := by decide +kernel
theorem dX2_round_11 : decode cX2_round 11 = .ok (.invokevirtual 173, 3) := by decide +kernel
theorem dX2_round_14 : decode cX2_round 14 = .ok (.aload_n 0, 1) := by decide +kernel
theorem dX2_round_15 : decode cX2_round 15 = .ok (.aload_n 0, 1) := by decide +kernel
theorem dX2_round_16 : decode cX2_round 16 = .ok (.getfield 34, 3) := by decide +kernel
theorem dX2_round_19 : decode cX2_round 19 = .ok (.invokevirtual 162, 3) := by decide +kernel
theorem dX2_round_22 : decode cX2_round 22 = .ok (.istore_n 1, 1) := by decide +kernel
theorem dX2_round_23 : decode cX2_round 23 = .ok (.iconst 1, 1) := by decide +kernel
theorem dX2_round_24 : decode cX2_round 24 = .ok (.istore_n 2, 1) := by decide +kernel
theorem dX2_round_25 : decode cX2_round 25 = .ok (.iload_n 2, 1) := by decide +kernel
theorem dX2_round_26 : decode cX2_round 26 = .ok (.bipush 120, 2) := by decide +kernel
theorem dX2_round_28 : decode cX2_round 28 = .ok (.if_icmp .gt 101, 3) := by decide +kernel
theorem dX2_round_31 : decode cX2_round 31 = .ok (.aload_n 0, 1) := by decide +kernel
theorem dX2_round_32 : decode cX2_round 32 = .ok (.iconst 1, 1) := by decide +kernel
theorem dX2_round_33 : decode cX2_round 33 = .ok (.invokevirtual 176, 3) := by decide +kernel
theorem dX2_round_36 : decode cX2_round 36 = .ok (.aload_n 0, 1) := by decide +kernel
theorem dX2_round_37 : decode cX2_round 37 = .ok (.aload_n 0, 1) := by decide +kernel
theorem dX2_round_38 : decode cX2_round 38 = .ok (.getfield 34, 3) := by decide +kernel
theorem dX2_round_41 : decode cX2_round 41 = .ok (.invokevirtual 162, 3) := by decide +kernel
theorem dX2_round_44 : decode cX2_round 44 = .ok (.iload_n 1, 1) := by decide +kernel
theorem dX2_round_45 : decode cX2_round 45 = .ok (.if_icmp .ge 14, 3) := by decide +kernel
theorem dX2_round_48 : decode cX2_round 48 = .ok (.aload_n 0, 1) := by decide +kernel
theorem dX2_round_49 : decode cX2_round 49 = .ok (.aload_n 0, 1) := by decide +kernel
theorem dX2_round_50 : decode cX2_round 50 = .ok (.getfield 34, 3) := by decide +kernel
theorem dX2_round_53 : decode cX2_round 53 = .ok (.invokevirtual 162, 3) := by decide +kernel
theorem dX2_round_56 : decode cX2_round 56 = .ok (.goto 4, 3) := by decide +kernel
theorem dX2_round_59 : decode cX2_round 59 = .ok (.iload_n 1, 1) := by decide +kernel
theorem dX2_round_60 : decode cX2_round 60 = .ok (.istore_n 1, 1) := by decide +kernel
theorem dX2_round_61 : decode cX2_round 61 = .ok (.iconst 1, 1) := by decide +kernel
theorem dX2_round_62 : decode cX2_round 62 = .ok (.istore_n 3, 1) := by decide +kernel
theorem dX2_round_63 : decode cX2_round 63 = .ok (.iconst 0, 1) := by decide +kernel
theorem dX2_round_64 : decode cX2_round 64 = .ok (.istore 4, 2) := by decide +kernel
theorem dX2_round_66 : decode cX2_round 66 = .ok (.iload 4, 2) := by decide +kernel
theorem dX2_round_68 : decode cX2_round 68 = .ok (.aload_n 0, 1) := by decide +kernel
theorem dX2_round_69 : decode cX2_round 69 = .ok (.getfield 79, 3) := by decide +kernel
theorem dX2_round_72 : decode cX2_round 72 = .ok (.if_icmp .ge 40, 3) := by decide +kernel
theorem dX2_round_75 : decode cX2_round 75 = .ok (.iload_n 3, 1) := by decide +kernel
theorem dX2_round_76 : decode cX2_round 76 = .ok (.ifCond .eq 28, 3) := by decide +kernel
theorem dX2_round_79 : decode cX2_round 79 = .ok (.aload_n 0, 1) := by decide +kernel
theorem dX2_round_80 : decode cX2_round 80 = .ok (.getfield 34, 3) := by decide +kernel
theorem dX2_round_83 : decode cX2_round 83 = .ok (.iconst 1, 1) := by decide +kernel
theorem dX2_round_84 : decode cX2_round 84 = .ok (.iload 4, 2) := by decide +kernel
theorem dX2_round_86 : decode cX2_round 86 = .ok (.iadd, 1) := by decide +kernel
theorem dX2_round_87 : decode cX2_round 87 = .ok (.iaload, 1) := by decide +kernel
theorem dX2_round_88 : decode cX2_round 88 = .ok (.aload_n 0, 1) := by decide +kernel
theorem dX2_round_89 : decode cX2_round 89 = .ok (.getfield 31, 3) := by decide +kernel
theorem dX2_round_92 : decode cX2_round 92 = .ok (.iconst 1, 1) := by decide +kernel
theorem dX2_round_93 : decode cX2_round 93 = .ok (.iload 4, 2) := by decide +kernel
theorem dX2_round_95 : decode cX2_round 95 = .ok (.iadd, 1) := by decide +kernel
theorem dX2_round_96 : decode cX2_round 96 = .ok (.iaload, 1) := by decide +kernel
theorem dX2_round_97 : decode cX2_round 97 = .ok (.if_icmp .ne 7, 3) := by decide +kernel
theorem dX2_round_100 : decode cX2_round 100 = .ok (.iconst 1, 1) := by decide +kernel
theorem dX2_round_101 : decode cX2_round 101 = .ok (.goto 4, 3) := by decide +kernel
theorem dX2_round_104 : decode cX2_round 104 = .ok (.iconst 0, 1) := by decide +kernel
theorem dX2_round_105 : decode cX2_round 105 = .ok (.istore_n 3, 1) := by decide +kernel
theorem dX2_round_106 : decode cX2_round 106 = .ok (.iinc 4 1, 3) := by decide +kernel
theorem dX2_round_109 : decode cX2_round 109 = .ok (.goto (-43), 3) := by decide +kernel
theorem dX2_round_112 : decode cX2_round 112 = .ok (.iload_n 3, 1) := by decide +kernel
theorem dX2_round_113 : decode cX2_round 113 = .ok (.ifCond .eq 10, 3) := by decide +kernel
theorem dX2_round_116 : decode cX2_round 116 = .ok (.aload_n 0, 1) := by decide +kernel
theorem dX2_round_117 : decode cX2_round 117 = .ok (.iload_n 1, 1) := by decide +kernel
theorem dX2_round_118 : decode cX2_round 118 = .ok (.iload_n 2, 1) := by decide +kernel
theorem dX2_round_119 : decode cX2_round 119 = .ok (.invokevirtual 102, 3) := by decide +kernel
theorem dX2_round_122 : decode cX2_round 122 = .ok (.ireturn, 1) := by decide +kernel
theorem dX2_round_123 : decode cX2_round 123 = .ok (.iinc 2 1, 3) := by decide +kernel
theorem dX2_round_126 : decode cX2_round 126 = .ok (.goto (-101), 3) := by decide +kernel
theorem dX2_round_129 : decode cX2_round 129 = .ok (.bipush (-9), 2) := by decide +kernel
theorem dX2_round_131 : decode cX2_round 131 = .ok (.ireturn, 1) := by decide +kernel
theorem dX2_left_0 : decode cX2_left 0 = .ok (.iload_n 1, 1) := by decide +kernel
theorem dX2_left_1 : decode cX2_left 1 = .ok (.iconst 0, 1) := by decide +kernel
theorem dX2_left_2 : decode cX2_left 2 = .ok (.bipush 60, 2) := by decide +kernel
theorem dX2_left_4 : decode cX2_left 4 = .ok (.invokestatic 82, 3) := by decide +kernel
theorem dX2_left_7 : decode cX2_left 7 = .ok (.ifCond .ne 5, 3) := by decide +kernel
theorem dX2_left_10 : decode cX2_left 10 = .ok (.iconst (-1), 1) := by decide +kernel
theorem dX2_left_11 : decode cX2_left 11 = .ok (.ireturn, 1) := by decide +kernel
theorem dX2_left_12 : decode cX2_left 12 = .ok (.aload_n 0, 1) := by decide +kernel
theorem dX2_left_13 : decode cX2_left 13 = .ok (.getfield 79, 3) := by decide +kernel
theorem dX2_left_16 : decode cX2_left 16 = .ok (.ifCond .ne 6, 3) := by decide +kernel
theorem dX2_left_19 : decode cX2_left 19 = .ok (.bipush (-4), 2) := by decide +kernel
theorem dX2_left_21 : decode cX2_left 21 = .ok (.ireturn, 1) := by decide +kernel
theorem dX2_left_22 : decode cX2_left 22 = .ok (.aload_n 0, 1) := by decide +kernel
theorem dX2_left_23 : decode cX2_left 23 = .ok (.invokevirtual 173, 3) := by decide +kernel
theorem dX2_left_26 : decode cX2_left 26 = .ok (.aload_n 0, 1) := by decide +kernel
theorem dX2_left_27 : decode cX2_left 27 = .ok (.iload_n 1, 1) := by decide +kernel
theorem dX2_left_28 : decode cX2_left 28 = .ok (.invokevirtual 176, 3) := by decide +kernel
theorem dX2_left_31 : decode cX2_left 31 = .ok (.iconst 0, 1) := by decide +kernel
theorem dX2_left_32 : decode cX2_left 32 = .ok (.istore_n 2, 1) := by decide +kernel
theorem dX2_left_33 : decode cX2_left 33 = .ok (.iconst 0, 1) := by decide +kernel
theorem dX2_left_34 : decode cX2_left 34 = .ok (.istore_n 3, 1) := by decide +kernel
theorem dX2_left_35 : decode cX2_left 35 = .ok (.iload_n 3, 1) := by decide +kernel
theorem dX2_left_36 : decode cX2_left 36 = .ok (.aload_n 0, 1) := by decide +kernel
theorem dX2_left_37 : decode cX2_left 37 = .ok (.getfield 79, 3) := by decide +kernel
theorem dX2_left_40 : decode cX2_left 40 = .ok (.if_icmp .ge 28, 3) := by decide +kernel
theorem dX2_left_43 : decode cX2_left 43 = .ok (.iload_n 2, 1) := by decide +kernel
theorem dX2_left_44 : decode cX2_left 44 = .ok (.aload_n 0, 1) := by decide +kernel
theorem dX2_left_45 : decode cX2_left 45 = .ok (.getfield 34, 3) := by decide +kernel
theorem dX2_left_48 : decode cX2_left 48 = .ok (.iconst 1, 1) := by decide +kernel
theorem dX2_left_49 : decode cX2_left 49 = .ok (.iload_n 3, 1) := by decide +kernel
theorem dX2_left_50 : decode cX2_left 50 = .ok (.iadd, 1) := by decide +kernel
theorem dX2_left_51 : decode cX2_left 51 = .ok (.iaload, 1) := by decide +kernel
theorem dX2_left_52 : decode cX2_left 52 = .ok (.ifCond .ne 7, 3) := by decide +kernel
theorem dX2_left_55 : decode cX2_left 55 = .ok (.iconst 1, 1) := by decide +kernel
theorem dX2_left_56 : decode cX2_left 56 = .ok (.goto 4, 3) := by decide +kernel
theorem dX2_left_59 : decode cX2_left 59 = .ok (.iconst 0, 1) := by decide +kernel
theorem dX2_left_60 : decode cX2_left 60 = .ok (.iadd, 1) := by decide +kernel
theorem dX2_left_61 : decode cX2_left 61 = .ok (.istore_n 2, 1) := by decide +kernel
theorem dX2_left_62 : decode cX2_left 62 = .ok (.iinc 3 1, 3) := by decide +kernel
theorem dX2_left_65 : decode cX2_left 65 = .ok (.goto (-30), 3) := by decide +kernel
theorem dX2_left_68 : decode cX2_left 68 = .ok (.aload_n 0, 1) := by decide +kernel
theorem dX2_left_69 : decode cX2_left 69 = .ok (.iload_n 2, 1) := by decide +kernel
theorem dX2_left_70 : decode cX2_left 70 = .ok (.aload_n 0, 1) := by decide +kernel
theorem dX2_left_71 : decode cX2_left 71 = .ok (.aload_n 0, 1) := by decide +kernel
theorem dX2_left_72 : decode cX2_left 72 = .ok (.getfield 34, 3) := by decide +kernel
theorem dX2_left_75 : decode cX2_left 75 = .ok (.invokevirtual 162, 3) := by decide +kernel
theorem dX2_left_78 : decode cX2_left 78 = .ok (.invokevirtual 102, 3) := by decide +kernel
theorem dX2_left_81 : decode cX2_left 81 = .ok (.ireturn, 1) := by decide +kernel
theorem dX2_best_0 : decode cX2_best 0 = .ok (.iload_n 1, 1) := by decide +kernel
theorem dX2_best_1 : decode cX2_best 1 = .ok (.iconst 1, 1) := by decide +kernel
theorem dX2_best_2 : decode cX2_best 2 = .ok (.bipush 40, 2) := by decide +kernel
theorem dX2_best_4 : decode cX2_best 4 = .ok (.invokestatic 82, 3) := by decide +kernel
theorem dX2_best_7 : decode cX2_best 7 = .ok (.ifCond .ne 5, 3) := by decide +kernel
theorem dX2_best_10 : decode cX2_best 10 = .ok (.iconst (-1), 1) := by decide +kernel
theorem dX2_best_11 : decode cX2_best 11 = .ok (.ireturn, 1) := by decide +kernel
theorem dX2_best_12 : decode cX2_best 12 = .ok (.aload_n 0, 1) := by decide +kernel
theorem dX2_best_13 : decode cX2_best 13 = .ok (.getfield 79, 3) := by decide +kernel
theorem dX2_best_16 : decode cX2_best 16 = .ok (.ifCond .ne 6, 3) := by decide +kernel
theorem dX2_best_19 : decode cX2_best 19 = .ok (.bipush (-4), 2) := by decide +kernel
theorem dX2_best_21 : decode cX2_best 21 = .ok (.ireturn, 1) := by decide +kernel
theorem dX2_best_22 : decode cX2_best 22 = .ok (.aload_n 0, 1) := by decide +kernel
theorem dX2_best_23 : decode cX2_best 23 = .ok (.invokevirtual 173, 3) := by decide +kernel
theorem dX2_best_26 : decode cX2_best 26 = .ok (.aload_n 0, 1) := by decide +kernel
theorem dX2_best_27 : decode cX2_best 27 = .ok (.iload_n 1, 1) := by decide +kernel
theorem dX2_best_28 : decode cX2_best 28 = .ok (.invokevirtual 176, 3) := by decide +kernel
theorem dX2_best_31 : decode cX2_best 31 = .ok (.aload_n 0, 1) := by decide +kernel
theorem dX2_best_32 : decode cX2_best 32 = .ok (.aload_n 0, 1) := by decide +kernel
theorem dX2_best_33 : decode cX2_best 33 = .ok (.getfield 34, 3) := by decide +kernel
theorem dX2_best_36 : decode cX2_best 36 = .ok (.invokevirtual 162, 3) := by decide +kernel
theorem dX2_best_39 : decode cX2_best 39 = .ok (.istore_n 2, 1) := by decide +kernel
theorem dX2_best_40 : decode cX2_best 40 = .ok (.bipush (-9), 2) := by decide +kernel
theorem dX2_best_42 : decode cX2_best 42 = .ok (.istore_n 3, 1) := by decide +kernel
theorem dX2_best_43 : decode cX2_best 43 = .ok (.iconst 0, 1) := by decide +kernel
theorem dX2_best_44 : decode cX2_best 44 = .ok (.istore 4, 2) := by decide +kernel
theorem dX2_best_46 : decode cX2_best 46 = .ok (.iload 4, 2) := by decide +kernel
theorem dX2_best_48 : decode cX2_best 48 = .ok (.aload_n 0, 1) := by decide +kernel
theorem dX2_best_49 : decode cX2_best 49 = .ok (.getfield 79, 3) := by decide +kernel
theorem dX2_best_52 : decode cX2_best 52 = .ok (.if_icmp .ge 92, 3) := by decide +kernel
theorem dX2_best_55 : decode cX2_best 55 = .ok (.iload 4, 2) := by decide +kernel
theorem dX2_best_57 : decode cX2_best 57 = .ok (.iconst 1, 1) := by decide +kernel
theorem dX2_best_58 : decode cX2_best 58 = .ok (.iadd, 1) := by decide +kernel
theorem dX2_best_59 : decode cX2_best 59 = .ok (.istore 5, 2) := by decide +kernel
theorem dX2_best_61 : decode cX2_best 61 = .ok (.iload 5, 2) := by decide +kernel
theorem dX2_best_63 : decode cX2_best 63 = .ok (.aload_n 0, 1) := by decide +kernel
theorem dX2_best_64 : decode cX2_best 64 = .ok (.getfield 79, 3) := by decide +kernel
theorem dX2_best_67 : decode cX2_best 67 = .ok (.if_icmp .ge 71, 3) := by decide +kernel
theorem dX2_best_70 : decode cX2_best 70 = .ok (.aload_n 0, 1) := by decide +kernel
theorem dX2_best_71 : decode cX2_best 71 = .ok (.invokevirtual 173, 3) := by decide +kernel
theorem dX2_best_74 : decode cX2_best 74 = .ok (.aload_n 0, 1) := by decide +kernel
theorem dX2_best_75 : decode cX2_best 75 = .ok (.getfield 34, 3) := by decide +kernel
theorem dX2_best_78 : decode cX2_best 78 = .ok (.iload 4, 2) := by decide +kernel
theorem dX2_best_80 : decode cX2_best 80 = .ok (.iload 5, 2) := by decide +kernel
theorem dX2_best_82 : decode cX2_best 82 = .ok (.invokestatic 166, 3) := by decide +kernel
theorem dX2_best_85 : decode cX2_best 85 = .ok (.aload_n 0, 1) := by decide +kernel
theorem dX2_best_86 : decode cX2_best 86 = .ok (.iload_n 1, 1) := by decide +kernel
theorem dX2_best_87 : decode cX2_best 87 = .ok (.invokevirtual 176, 3) := by decide +kernel
theorem dX2_best_90 : decode cX2_best 90 = .ok (.aload_n 0, 1) := by decide +kernel
theorem dX2_best_91 : decode cX2_best 91 = .ok (.aload_n 0, 1) := by decide +kernel
theorem dX2_best_92 : decode cX2_best 92 = .ok (.getfield 34, 3) := by decide +kernel
theorem dX2_best_95 : decode cX2_best 95 = .ok (.invokevirtual 162, 3) := by decide +kernel
theorem dX2_best_98 : decode cX2_best 98 = .ok (.istore 6, 2) := by decide +kernel
theorem dX2_best_100 : decode cX2_best 100 = .ok (.iload 6, 2) := by decide +kernel
theorem dX2_best_102 : decode cX2_best 102 = .ok (.iload_n 2, 1) := by decide +kernel
theorem dX2_best_103 : decode cX2_best 103 = .ok (.if_icmp .le 14, 3) := by decide +kernel
theorem dX2_best_106 : decode cX2_best 106 = .ok (.bipush 10, 2) := by decide +kernel
theorem dX2_best_108 : decode cX2_best 108 = .ok (.iload 4, 2) := by decide +kernel
theorem dX2_best_110 : decode cX2_best 110 = .ok (.imul, 1) := by decide +kernel
theorem dX2_best_111 : decode cX2_best 111 = .ok (.iload 5, 2) := by decide +kernel
theorem dX2_best_113 : decode cX2_best 113 = .ok (.iadd, 1) := by decide +kernel
theorem dX2_best_114 : decode cX2_best 114 = .ok (.goto 4, 3) := by decide +kernel
theorem dX2_best_117 : decode cX2_best 117 = .ok (.iload_n 3, 1) := by decide +kernel
theorem dX2_best_118 : decode cX2_best 118 = .ok (.istore_n 3, 1) := by decide +kernel
theorem dX2_best_119 : decode cX2_best 119 = .ok (.iload 6, 2) := by decide +kernel
theorem dX2_best_121 : decode cX2_best 121 = .ok (.iload_n 2, 1) := by decide +kernel
theorem dX2_best_122 : decode cX2_best 122 = .ok (.if_icmp .le 8, 3) := by decide +kernel
theorem dX2_best_125 : decode cX2_best 125 = .ok (.iload 6, 2) := by decide +kernel
theorem dX2_best_127 : decode cX2_best 127 = .ok (.goto 4, 3) := by decide +kernel
theorem dX2_best_130 : decode cX2_best 130 = .ok (.iload_n 2, 1) := by decide +kernel
theorem dX2_best_131 : decode cX2_best 131 = .ok (.istore_n 2, 1) := by decide +kernel
theorem dX2_best_132 : decode cX2_best 132 = .ok (.iinc 5 1, 3) := by decide +kernel
theorem dX2_best_135 : decode cX2_best 135 = .ok (.goto (-74), 3) := by decide +kernel
theorem dX2_best_138 : decode cX2_best 138 = .ok (.iinc 4 1, 3) := by decide +kernel
theorem dX2_best_141 : decode cX2_best 141 = .ok (.goto (-95), 3) := by decide +kernel
theorem dX2_best_144 : decode cX2_best 144 = .ok (.iload_n 3, 1) := by decide +kernel
theorem dX2_best_145 : decode cX2_best 145 = .ok (.bipush (-9), 2) := by decide +kernel
theorem dX2_best_147 : decode cX2_best 147 = .ok (.if_icmp .ne 8, 3) := by decide +kernel
theorem dX2_best_150 : decode cX2_best 150 = .ok (.bipush (-9), 2) := by decide +kernel
theorem dX2_best_152 : decode cX2_best 152 = .ok (.goto 9, 3) := by decide +kernel
theorem dX2_best_155 : decode cX2_best 155 = .ok (.aload_n 0, 1) := by decide +kernel
theorem dX2_best_156 : decode cX2_best 156 = .ok (.iload_n 2, 1) := by decide +kernel
theorem dX2_best_157 : decode cX2_best 157 = .ok (.iload_n 3, 1) := by decide +kernel
theorem dX2_best_158 : decode cX2_best 158 = .ok (.invokevirtual 102, 3) := by decide +kernel
theorem dX2_best_161 : decode cX2_best 161 = .ok (.ireturn, 1) := by decide +kernel
theorem dX2_againBy_0 : decode cX2_againBy 0 = .ok (.aload_n 0, 1) := by decide +kernel
theorem dX2_againBy_1 : decode cX2_againBy 1 = .ok (.invokevirtual 173, 3) := by decide +kernel
theorem dX2_againBy_4 : decode cX2_againBy 4 = .ok (.aload_n 0, 1) := by decide +kernel
theorem dX2_againBy_5 : decode cX2_againBy 5 = .ok (.getfield 34, 3) := by decide +kernel
theorem dX2_againBy_8 : decode cX2_againBy 8 = .ok (.iconst 1, 1) := by decide +kernel
theorem dX2_againBy_9 : decode cX2_againBy 9 = .ok (.iload_n 1, 1) := by decide +kernel
theorem dX2_againBy_10 : decode cX2_againBy 10 = .ok (.iadd, 1) := by decide +kernel
theorem dX2_againBy_11 : decode cX2_againBy 11 = .ok (.iload_n 2, 1) := by decide +kernel
theorem dX2_againBy_12 : decode cX2_againBy 12 = .ok (.iastore, 1) := by decide +kernel
theorem dX2_againBy_13 : decode cX2_againBy 13 = .ok (.iconst 1, 1) := by decide +kernel
theorem dX2_againBy_14 : decode cX2_againBy 14 = .ok (.istore_n 3, 1) := by decide +kernel
theorem dX2_againBy_15 : decode cX2_againBy 15 = .ok (.iload_n 3, 1) := by decide +kernel
theorem dX2_againBy_16 : decode cX2_againBy 16 = .ok (.bipush 60, 2) := by decide +kernel
theorem dX2_againBy_18 : decode cX2_againBy 18 = .ok (.if_icmp .gt 28, 3) := by decide +kernel
theorem dX2_againBy_21 : decode cX2_againBy 21 = .ok (.aload_n 0, 1) := by decide +kernel
theorem dX2_againBy_22 : decode cX2_againBy 22 = .ok (.iconst 1, 1) := by decide +kernel
theorem dX2_againBy_23 : decode cX2_againBy 23 = .ok (.invokevirtual 176, 3) := by decide +kernel
theorem dX2_againBy_26 : decode cX2_againBy 26 = .ok (.aload_n 0, 1) := by decide +kernel
theorem dX2_againBy_27 : decode cX2_againBy 27 = .ok (.getfield 34, 3) := by decide +kernel
theorem dX2_againBy_30 : decode cX2_againBy 30 = .ok (.iconst 1, 1) := by decide +kernel
theorem dX2_againBy_31 : decode cX2_againBy 31 = .ok (.iload_n 1, 1) := by decide +kernel
theorem dX2_againBy_32 : decode cX2_againBy 32 = .ok (.iadd, 1) := by decide +kernel
theorem dX2_againBy_33 : decode cX2_againBy 33 = .ok (.iaload, 1) := by decide +kernel
theorem dX2_againBy_34 : decode cX2_againBy 34 = .ok (.iload_n 2, 1) := by decide +kernel
theorem dX2_againBy_35 : decode cX2_againBy 35 = .ok (.if_icmp .ne 5, 3) := by decide +kernel
theorem dX2_againBy_38 : decode cX2_againBy 38 = .ok (.iload_n 3, 1) := by decide +kernel
theorem dX2_againBy_39 : decode cX2_againBy 39 = .ok (.ireturn, 1) := by decide +kernel
theorem dX2_againBy_40 : decode cX2_againBy 40 = .ok (.iinc 3 1, 3) := by decide +kernel
theorem dX2_againBy_43 : decode cX2_againBy 43 = .ok (.goto (-28), 3) := by decide +kernel
theorem dX2_againBy_46 : decode cX2_againBy 46 = .ok (.bipush 61, 2) := by decide +kernel
theorem dX2_againBy_48 : decode cX2_againBy 48 = .ok (.ireturn, 1) := by decide +kernel
theorem dX2_safest_0 : decode cX2_safest 0 = .ok (.iload_n 1, 1) := by decide +kernel
theorem dX2_safest_1 : decode cX2_safest 1 = .ok (.iconst 0, 1) := by decide +kernel
theorem dX2_safest_2 : decode cX2_safest 2 = .ok (.sipush 511, 3) := by decide +kernel
theorem dX2_safest_5 : decode cX2_safest 5 = .ok (.invokestatic 82, 3) := by decide +kernel
theorem dX2_safest_8 : decode cX2_safest 8 = .ok (.ifCond .ne 5, 3) := by decide +kernel
theorem dX2_safest_11 : decode cX2_safest 11 = .ok (.iconst (-1), 1) := by decide +kernel
theorem dX2_safest_12 : decode cX2_safest 12 = .ok (.ireturn, 1) := by decide +kernel
theorem dX2_safest_13 : decode cX2_safest 13 = .ok (.aload_n 0, 1) := by decide +kernel
theorem dX2_safest_14 : decode cX2_safest 14 = .ok (.getfield 79, 3) := by decide +kernel
theorem dX2_safest_17 : decode cX2_safest 17 = .ok (.ifCond .ne 6, 3) := by decide +kernel
theorem dX2_safest_20 : decode cX2_safest 20 = .ok (.bipush (-4), 2) := by decide +kernel
theorem dX2_safest_22 : decode cX2_safest 22 = .ok (.ireturn, 1) := by decide +kernel
theorem dX2_safest_23 : decode cX2_safest 23 = .ok (.bipush (-9), 2) := by decide +kernel
theorem dX2_safest_25 : decode cX2_safest 25 = .ok (.istore_n 2, 1) := by decide +kernel
theorem dX2_safest_26 : decode cX2_safest 26 = .ok (.bipush 61, 2) := by decide +kernel
theorem dX2_safest_28 : decode cX2_safest 28 = .ok (.istore_n 3, 1) := by decide +kernel
theorem dX2_safest_29 : decode cX2_safest 29 = .ok (.iconst 0, 1) := by decide +kernel
theorem dX2_safest_30 : decode cX2_safest 30 = .ok (.istore 4, 2) := by decide +kernel
theorem dX2_safest_32 : decode cX2_safest 32 = .ok (.iload 4, 2) := by decide +kernel
theorem dX2_safest_34 : decode cX2_safest 34 = .ok (.aload_n 0, 1) := by decide +kernel
theorem dX2_safest_35 : decode cX2_safest 35 = .ok (.getfield 79, 3) := by decide +kernel
theorem dX2_safest_38 : decode cX2_safest 38 = .ok (.if_icmp .ge 59, 3) := by decide +kernel
theorem dX2_safest_41 : decode cX2_safest 41 = .ok (.aload_n 0, 1) := by decide +kernel
theorem dX2_safest_42 : decode cX2_safest 42 = .ok (.iload 4, 2) := by decide +kernel
theorem dX2_safest_44 : decode cX2_safest 44 = .ok (.iload_n 1, 1) := by decide +kernel
theorem dX2_safest_45 : decode cX2_safest 45 = .ok (.invokevirtual 170, 3) := by decide +kernel
theorem dX2_safest_48 : decode cX2_safest 48 = .ok (.ifCond .eq 13, 3) := by decide +kernel
theorem dX2_safest_51 : decode cX2_safest 51 = .ok (.aload_n 0, 1) := by decide +kernel
theorem dX2_safest_52 : decode cX2_safest 52 = .ok (.iload 4, 2) := by decide +kernel
theorem dX2_safest_54 : decode cX2_safest 54 = .ok (.iload_n 1, 1) := by decide +kernel
theorem dX2_safest_55 : decode cX2_safest 55 = .ok (.invokevirtual 180, 3) := by decide +kernel
theorem dX2_safest_58 : decode cX2_safest 58 = .ok (.goto 5, 3) := by decide +kernel
theorem dX2_safest_61 : decode cX2_safest 61 = .ok (.bipush 61, 2) := by decide +kernel
theorem dX2_safest_63 : decode cX2_safest 63 = .ok (.istore 5, 2) := by decide +kernel
theorem dX2_safest_65 : decode cX2_safest 65 = .ok (.iload 5, 2) := by decide +kernel
theorem dX2_safest_67 : decode cX2_safest 67 = .ok (.iload_n 3, 1) := by decide +kernel
theorem dX2_safest_68 : decode cX2_safest 68 = .ok (.if_icmp .ge 8, 3) := by decide +kernel
theorem dX2_safest_71 : decode cX2_safest 71 = .ok (.iload 4, 2) := by decide +kernel
theorem dX2_safest_73 : decode cX2_safest 73 = .ok (.goto 4, 3) := by decide +kernel
theorem dX2_safest_76 : decode cX2_safest 76 = .ok (.iload_n 2, 1) := by decide +kernel
theorem dX2_safest_77 : decode cX2_safest 77 = .ok (.istore_n 2, 1) := by decide +kernel
theorem dX2_safest_78 : decode cX2_safest 78 = .ok (.iload 5, 2) := by decide +kernel
theorem dX2_safest_80 : decode cX2_safest 80 = .ok (.iload_n 3, 1) := by decide +kernel
theorem dX2_safest_81 : decode cX2_safest 81 = .ok (.if_icmp .ge 8, 3) := by decide +kernel
theorem dX2_safest_84 : decode cX2_safest 84 = .ok (.iload 5, 2) := by decide +kernel
theorem dX2_safest_86 : decode cX2_safest 86 = .ok (.goto 4, 3) := by decide +kernel
theorem dX2_safest_89 : decode cX2_safest 89 = .ok (.iload_n 3, 1) := by decide +kernel
theorem dX2_safest_90 : decode cX2_safest 90 = .ok (.istore_n 3, 1) := by decide +kernel
theorem dX2_safest_91 : decode cX2_safest 91 = .ok (.iinc 4 1, 3) := by decide +kernel
theorem dX2_safest_94 : decode cX2_safest 94 = .ok (.goto (-62), 3) := by decide +kernel
theorem dX2_safest_97 : decode cX2_safest 97 = .ok (.iload_n 2, 1) := by decide +kernel
theorem dX2_safest_98 : decode cX2_safest 98 = .ok (.bipush (-9), 2) := by decide +kernel
theorem dX2_safest_100 : decode cX2_safest 100 = .ok (.if_icmp .ne 8, 3) := by decide +kernel
theorem dX2_safest_103 : decode cX2_safest 103 = .ok (.bipush (-9), 2) := by decide +kernel
theorem dX2_safest_105 : decode cX2_safest 105 = .ok (.goto 9, 3) := by decide +kernel
theorem dX2_safest_108 : decode cX2_safest 108 = .ok (.aload_n 0, 1) := by decide +kernel
theorem dX2_safest_109 : decode cX2_safest 109 = .ok (.iload_n 3, 1) := by decide +kernel
theorem dX2_safest_110 : decode cX2_safest 110 = .ok (.iload_n 2, 1) := by decide +kernel
theorem dX2_safest_111 : decode cX2_safest 111 = .ok (.invokevirtual 102, 3) := by decide +kernel
theorem dX2_safest_114 : decode cX2_safest 114 = .ok (.ireturn, 1) := by decide +kernel
theorem dX2_heardOf_0 : decode cX2_heardOf 0 = .ok (.aload_n 0, 1) := by decide +kernel
theorem dX2_heardOf_1 : decode cX2_heardOf 1 = .ok (.getfield 7, 3) := by decide +kernel
theorem dX2_heardOf_4 : decode cX2_heardOf 4 = .ok (.iload_n 1, 1) := by decide +kernel
theorem dX2_heardOf_5 : decode cX2_heardOf 5 = .ok (.iaload, 1) := by decide +kernel
theorem dX2_heardOf_6 : decode cX2_heardOf 6 = .ok (.ifCond .ge 5, 3) := by decide +kernel
theorem dX2_heardOf_9 : decode cX2_heardOf 9 = .ok (.iconst 1, 1) := by decide +kernel
theorem dX2_heardOf_10 : decode cX2_heardOf 10 = .ok (.ireturn, 1) := by decide +kernel
theorem dX2_heardOf_11 : decode cX2_heardOf 11 = .ok (.aload_n 0, 1) := by decide +kernel
theorem dX2_heardOf_12 : decode cX2_heardOf 12 = .ok (.getfield 7, 3) := by decide +kernel
theorem dX2_heardOf_15 : decode cX2_heardOf 15 = .ok (.iload_n 1, 1) := by decide +kernel
theorem dX2_heardOf_16 : decode cX2_heardOf 16 = .ok (.iaload, 1) := by decide +kernel
theorem dX2_heardOf_17 : decode cX2_heardOf 17 = .ok (.iconst 1, 1) := by decide +kernel
theorem dX2_heardOf_18 : decode cX2_heardOf 18 = .ok (.bipush 20, 2) := by decide +kernel
theorem dX2_heardOf_20 : decode cX2_heardOf 20 = .ok (.invokestatic 82, 3) := by decide +kernel
theorem dX2_heardOf_23 : decode cX2_heardOf 23 = .ok (.ifCond .ne 5, 3) := by decide +kernel
theorem dX2_heardOf_26 : decode cX2_heardOf 26 = .ok (.iconst 5, 1) := by decide +kernel
theorem dX2_heardOf_27 : decode cX2_heardOf 27 = .ok (.ireturn, 1) := by decide +kernel
theorem dX2_heardOf_28 : decode cX2_heardOf 28 = .ok (.iconst 1, 1) := by decide +kernel
theorem dX2_heardOf_29 : decode cX2_heardOf 29 = .ok (.istore_n 2, 1) := by decide +kernel
theorem dX2_heardOf_30 : decode cX2_heardOf 30 = .ok (.iconst 0, 1) := by decide +kernel
theorem dX2_heardOf_31 : decode cX2_heardOf 31 = .ok (.istore_n 3, 1) := by decide +kernel
theorem dX2_heardOf_32 : decode cX2_heardOf 32 = .ok (.iload_n 3, 1) := by decide +kernel
theorem dX2_heardOf_33 : decode cX2_heardOf 33 = .ok (.aload_n 0, 1) := by decide +kernel
theorem dX2_heardOf_34 : decode cX2_heardOf 34 = .ok (.getfield 7, 3) := by decide +kernel
theorem dX2_heardOf_37 : decode cX2_heardOf 37 = .ok (.iload_n 1, 1) := by decide +kernel
theorem dX2_heardOf_38 : decode cX2_heardOf 38 = .ok (.iaload, 1) := by decide +kernel
theorem dX2_heardOf_39 : decode cX2_heardOf 39 = .ok (.if_icmp .ge 38, 3) := by decide +kernel
theorem dX2_heardOf_42 : decode cX2_heardOf 42 = .ok (.iload_n 2, 1) := by decide +kernel
theorem dX2_heardOf_43 : decode cX2_heardOf 43 = .ok (.ifCond .eq 26, 3) := by decide +kernel
theorem dX2_heardOf_46 : decode cX2_heardOf 46 = .ok (.aload_n 0, 1) := by decide +kernel
theorem dX2_heardOf_47 : decode cX2_heardOf 47 = .ok (.getfield 13, 3) := by decide +kernel
theorem dX2_heardOf_50 : decode cX2_heardOf 50 = .ok (.bipush 40, 2) := by decide +kernel
theorem dX2_heardOf_52 : decode cX2_heardOf 52 = .ok (.iload_n 1, 1) := by decide +kernel
theorem dX2_heardOf_53 : decode cX2_heardOf 53 = .ok (.imul, 1) := by decide +kernel
theorem dX2_heardOf_54 : decode cX2_heardOf 54 = .ok (.iload_n 3, 1) := by decide +kernel
theorem dX2_heardOf_55 : decode cX2_heardOf 55 = .ok (.iadd, 1) := by decide +kernel
theorem dX2_heardOf_56 : decode cX2_heardOf 56 = .ok (.iaload, 1) := by decide +kernel
theorem dX2_heardOf_57 : decode cX2_heardOf 57 = .ok (.iconst 0, 1) := by decide +kernel
theorem dX2_heardOf_58 : decode cX2_heardOf 58 = .ok (.iconst 1, 1) := by decide +kernel
theorem dX2_heardOf_59 : decode cX2_heardOf 59 = .ok (.invokestatic 82, 3) := by decide +kernel
theorem dX2_heardOf_62 : decode cX2_heardOf 62 = .ok (.ifCond .eq 7, 3) := by decide +kernel
theorem dX2_heardOf_65 : decode cX2_heardOf 65 = .ok (.iconst 1, 1) := by decide +kernel
theorem dX2_heardOf_66 : decode cX2_heardOf 66 = .ok (.goto 4, 3) := by decide +kernel
theorem dX2_heardOf_69 : decode cX2_heardOf 69 = .ok (.iconst 0, 1) := by decide +kernel
theorem dX2_heardOf_70 : decode cX2_heardOf 70 = .ok (.istore_n 2, 1) := by decide +kernel
theorem dX2_heardOf_71 : decode cX2_heardOf 71 = .ok (.iinc 3 1, 3) := by decide +kernel
theorem dX2_heardOf_74 : decode cX2_heardOf 74 = .ok (.goto (-42), 3) := by decide +kernel
theorem dX2_heardOf_77 : decode cX2_heardOf 77 = .ok (.iload_n 2, 1) := by decide +kernel
theorem dX2_heardOf_78 : decode cX2_heardOf 78 = .ok (.ifCond .eq 7, 3) := by decide +kernel
theorem dX2_heardOf_81 : decode cX2_heardOf 81 = .ok (.iconst 0, 1) := by decide +kernel
theorem dX2_heardOf_82 : decode cX2_heardOf 82 = .ok (.goto 4, 3) := by decide +kernel
theorem dX2_heardOf_85 : decode cX2_heardOf 85 = .ok (.iconst 3, 1) := by decide +kernel
theorem dX2_heardOf_86 : decode cX2_heardOf 86 = .ok (.ireturn, 1) := by decide +kernel
theorem dX2_isHeard_0 : decode cX2_isHeard 0 = .ok (.iconst 0, 1) := by decide +kernel
theorem dX2_isHeard_1 : decode cX2_isHeard 1 = .ok (.istore_n 3, 1) := by decide +kernel
theorem dX2_isHeard_2 : decode cX2_isHeard 2 = .ok (.iconst 1, 1) := by decide +kernel
theorem dX2_isHeard_3 : decode cX2_isHeard 3 = .ok (.istore 4, 2) := by decide +kernel
theorem dX2_isHeard_5 : decode cX2_isHeard 5 = .ok (.iconst 0, 1) := by decide +kernel
theorem dX2_isHeard_6 : decode cX2_isHeard 6 = .ok (.istore 5, 2) := by decide +kernel
theorem dX2_isHeard_8 : decode cX2_isHeard 8 = .ok (.iload 5, 2) := by decide +kernel
theorem dX2_isHeard_10 : decode cX2_isHeard 10 = .ok (.bipush 60, 2) := by decide +kernel
theorem dX2_isHeard_12 : decode cX2_isHeard 12 = .ok (.if_icmp .ge 75, 3) := by decide +kernel
theorem dX2_isHeard_15 : decode cX2_isHeard 15 = .ok (.iload 4, 2) := by decide +kernel
theorem dX2_isHeard_17 : decode cX2_isHeard 17 = .ok (.ifCond .eq 70, 3) := by decide +kernel
theorem dX2_isHeard_20 : decode cX2_isHeard 20 = .ok (.iload_n 3, 1) := by decide +kernel
theorem dX2_isHeard_21 : decode cX2_isHeard 21 = .ok (.aload_n 0, 1) := by decide +kernel
theorem dX2_isHeard_22 : decode cX2_isHeard 22 = .ok (.getfield 7, 3) := by decide +kernel
theorem dX2_isHeard_25 : decode cX2_isHeard 25 = .ok (.iload_n 2, 1) := by decide +kernel
theorem dX2_isHeard_26 : decode cX2_isHeard 26 = .ok (.iaload, 1) := by decide +kernel
theorem dX2_isHeard_27 : decode cX2_isHeard 27 = .ok (.if_icmp .ge 60, 3) := by decide +kernel
theorem dX2_isHeard_30 : decode cX2_isHeard 30 = .ok (.aload_n 0, 1) := by decide +kernel
theorem dX2_isHeard_31 : decode cX2_isHeard 31 = .ok (.aload_n 0, 1) := by decide +kernel
theorem dX2_isHeard_32 : decode cX2_isHeard 32 = .ok (.getfield 34, 3) := by decide +kernel
theorem dX2_isHeard_35 : decode cX2_isHeard 35 = .ok (.iload_n 1, 1) := by decide +kernel
theorem dX2_isHeard_36 : decode cX2_isHeard 36 = .ok (.invokevirtual 128, 3) := by decide +kernel
theorem dX2_isHeard_39 : decode cX2_isHeard 39 = .ok (.ifCond .eq 37, 3) := by decide +kernel
theorem dX2_isHeard_42 : decode cX2_isHeard 42 = .ok (.aload_n 0, 1) := by decide +kernel
theorem dX2_isHeard_43 : decode cX2_isHeard 43 = .ok (.getfield 34, 3) := by decide +kernel
theorem dX2_isHeard_46 : decode cX2_isHeard 46 = .ok (.iconst 1, 1) := by decide +kernel
theorem dX2_isHeard_47 : decode cX2_isHeard 47 = .ok (.iload_n 1, 1) := by decide +kernel
theorem dX2_isHeard_48 : decode cX2_isHeard 48 = .ok (.iadd, 1) := by decide +kernel
theorem dX2_isHeard_49 : decode cX2_isHeard 49 = .ok (.iaload, 1) := by decide +kernel
theorem dX2_isHeard_50 : decode cX2_isHeard 50 = .ok (.iconst 1, 1) := by decide +kernel
theorem dX2_isHeard_51 : decode cX2_isHeard 51 = .ok (.iand, 1) := by decide +kernel
theorem dX2_isHeard_52 : decode cX2_isHeard 52 = .ok (.aload_n 0, 1) := by decide +kernel
theorem dX2_isHeard_53 : decode cX2_isHeard 53 = .ok (.getfield 13, 3) := by decide +kernel
theorem dX2_isHeard_56 : decode cX2_isHeard 56 = .ok (.bipush 40, 2) := by decide +kernel
theorem dX2_isHeard_58 : decode cX2_isHeard 58 = .ok (.iload_n 2, 1) := by decide +kernel
theorem dX2_isHeard_59 : decode cX2_isHeard 59 = .ok (.imul, 1) := by decide +kernel
theorem dX2_isHeard_60 : decode cX2_isHeard 60 = .ok (.iload_n 3, 1) := by decide +kernel
theorem dX2_isHeard_61 : decode cX2_isHeard 61 = .ok (.iadd, 1) := by decide +kernel
theorem dX2_isHeard_62 : decode cX2_isHeard 62 = .ok (.iaload, 1) := by decide +kernel
theorem dX2_isHeard_63 : decode cX2_isHeard 63 = .ok (.if_icmp .ne 7, 3) := by decide +kernel
theorem dX2_isHeard_66 : decode cX2_isHeard 66 = .ok (.iconst 1, 1) := by decide +kernel
theorem dX2_isHeard_67 : decode cX2_isHeard 67 = .ok (.goto 4, 3) := by decide +kernel
theorem dX2_isHeard_70 : decode cX2_isHeard 70 = .ok (.iconst 0, 1) := by decide +kernel
theorem dX2_isHeard_71 : decode cX2_isHeard 71 = .ok (.istore 4, 2) := by decide +kernel
theorem dX2_isHeard_73 : decode cX2_isHeard 73 = .ok (.iinc 3 1, 3) := by decide +kernel
theorem dX2_isHeard_76 : decode cX2_isHeard 76 = .ok (.aload_n 0, 1) := by decide +kernel
theorem dX2_isHeard_77 : decode cX2_isHeard 77 = .ok (.iconst 1, 1) := by decide +kernel
theorem dX2_isHeard_78 : decode cX2_isHeard 78 = .ok (.invokevirtual 176, 3) := by decide +kernel
theorem dX2_isHeard_81 : decode cX2_isHeard 81 = .ok (.iinc 5 1, 3) := by decide +kernel
theorem dX2_isHeard_84 : decode cX2_isHeard 84 = .ok (.goto (-76), 3) := by decide +kernel
theorem dX2_isHeard_87 : decode cX2_isHeard 87 = .ok (.iload 4, 2) := by decide +kernel
theorem dX2_isHeard_89 : decode cX2_isHeard 89 = .ok (.ifCond .eq 17, 3) := by decide +kernel
theorem dX2_isHeard_92 : decode cX2_isHeard 92 = .ok (.iload_n 3, 1) := by decide +kernel
theorem dX2_isHeard_93 : decode cX2_isHeard 93 = .ok (.aload_n 0, 1) := by decide +kernel
theorem dX2_isHeard_94 : decode cX2_isHeard 94 = .ok (.getfield 7, 3) := by decide +kernel
theorem dX2_isHeard_97 : decode cX2_isHeard 97 = .ok (.iload_n 2, 1) := by decide +kernel
theorem dX2_isHeard_98 : decode cX2_isHeard 98 = .ok (.iaload, 1) := by decide +kernel
theorem dX2_isHeard_99 : decode cX2_isHeard 99 = .ok (.if_icmp .ne 7, 3) := by decide +kernel
theorem dX2_isHeard_102 : decode cX2_isHeard 102 = .ok (.iconst 1, 1) := by decide +kernel
theorem dX2_isHeard_103 : decode cX2_isHeard 103 = .ok (.goto 4, 3) := by decide +kernel
theorem dX2_isHeard_106 : decode cX2_isHeard 106 = .ok (.iconst 0, 1) := by decide +kernel
theorem dX2_isHeard_107 : decode cX2_isHeard 107 = .ok (.ireturn, 1) := by decide +kernel
theorem dX2_kindsOf_0 : decode cX2_kindsOf 0 = .ok (.aload_n 0, 1) := by decide +kernel
theorem dX2_kindsOf_1 : decode cX2_kindsOf 1 = .ok (.getfield 22, 3) := by decide +kernel
theorem dX2_kindsOf_4 : decode cX2_kindsOf 4 = .ok (.iload_n 1, 1) := by decide +kernel
theorem dX2_kindsOf_5 : decode cX2_kindsOf 5 = .ok (.iaload, 1) := by decide +kernel
theorem dX2_kindsOf_6 : decode cX2_kindsOf 6 = .ok (.istore_n 3, 1) := by decide +kernel
theorem dX2_kindsOf_7 : decode cX2_kindsOf 7 = .ok (.iconst 0, 1) := by decide +kernel
theorem dX2_kindsOf_8 : decode cX2_kindsOf 8 = .ok (.istore 4, 2) := by decide +kernel
theorem dX2_kindsOf_10 : decode cX2_kindsOf 10 = .ok (.iconst 0, 1) := by decide +kernel
theorem dX2_kindsOf_11 : decode cX2_kindsOf 11 = .ok (.istore 5, 2) := by decide +kernel
theorem dX2_kindsOf_13 : decode cX2_kindsOf 13 = .ok (.iload 5, 2) := by decide +kernel
theorem dX2_kindsOf_15 : decode cX2_kindsOf 15 = .ok (.bipush 6, 2) := by decide +kernel
theorem dX2_kindsOf_17 : decode cX2_kindsOf 17 = .ok (.if_icmp .ge 43, 3) := by decide +kernel
theorem dX2_kindsOf_20 : decode cX2_kindsOf 20 = .ok (.aload_n 0, 1) := by decide +kernel
theorem dX2_kindsOf_21 : decode cX2_kindsOf 21 = .ok (.getfield 22, 3) := by decide +kernel
theorem dX2_kindsOf_24 : decode cX2_kindsOf 24 = .ok (.iload_n 1, 1) := by decide +kernel
theorem dX2_kindsOf_25 : decode cX2_kindsOf 25 = .ok (.iload 5, 2) := by decide +kernel
theorem dX2_kindsOf_27 : decode cX2_kindsOf 27 = .ok (.iastore, 1) := by decide +kernel
theorem dX2_kindsOf_28 : decode cX2_kindsOf 28 = .ok (.aload_n 0, 1) := by decide +kernel
theorem dX2_kindsOf_29 : decode cX2_kindsOf 29 = .ok (.invokevirtual 173, 3) := by decide +kernel
theorem dX2_kindsOf_32 : decode cX2_kindsOf 32 = .ok (.iload 4, 2) := by decide +kernel
theorem dX2_kindsOf_34 : decode cX2_kindsOf 34 = .ok (.aload_n 0, 1) := by decide +kernel
theorem dX2_kindsOf_35 : decode cX2_kindsOf 35 = .ok (.iload_n 1, 1) := by decide +kernel
theorem dX2_kindsOf_36 : decode cX2_kindsOf 36 = .ok (.iload_n 2, 1) := by decide +kernel
theorem dX2_kindsOf_37 : decode cX2_kindsOf 37 = .ok (.invokevirtual 183, 3) := by decide +kernel
theorem dX2_kindsOf_40 : decode cX2_kindsOf 40 = .ok (.ifCond .eq 10, 3) := by decide +kernel
theorem dX2_kindsOf_43 : decode cX2_kindsOf 43 = .ok (.iconst 1, 1) := by decide +kernel
theorem dX2_kindsOf_44 : decode cX2_kindsOf 44 = .ok (.iload 5, 2) := by decide +kernel
theorem dX2_kindsOf_46 : decode cX2_kindsOf 46 = .ok (.ishl, 1) := by decide +kernel
theorem dX2_kindsOf_47 : decode cX2_kindsOf 47 = .ok (.goto 4, 3) := by decide +kernel
theorem dX2_kindsOf_50 : decode cX2_kindsOf 50 = .ok (.iconst 0, 1) := by decide +kernel
theorem dX2_kindsOf_51 : decode cX2_kindsOf 51 = .ok (.ior, 1) := by decide +kernel
theorem dX2_kindsOf_52 : decode cX2_kindsOf 52 = .ok (.istore 4, 2) := by decide +kernel
theorem dX2_kindsOf_54 : decode cX2_kindsOf 54 = .ok (.iinc 5 1, 3) := by decide +kernel
theorem dX2_kindsOf_57 : decode cX2_kindsOf 57 = .ok (.goto (-44), 3) := by decide +kernel
theorem dX2_kindsOf_60 : decode cX2_kindsOf 60 = .ok (.aload_n 0, 1) := by decide +kernel
theorem dX2_kindsOf_61 : decode cX2_kindsOf 61 = .ok (.getfield 22, 3) := by decide +kernel
theorem dX2_kindsOf_64 : decode cX2_kindsOf 64 = .ok (.iload_n 1, 1) := by decide +kernel
theorem dX2_kindsOf_65 : decode cX2_kindsOf 65 = .ok (.iload_n 3, 1) := by decide +kernel
theorem dX2_kindsOf_66 : decode cX2_kindsOf 66 = .ok (.iastore, 1) := by decide +kernel
theorem dX2_kindsOf_67 : decode cX2_kindsOf 67 = .ok (.iload 4, 2) := by decide +kernel
theorem dX2_kindsOf_69 : decode cX2_kindsOf 69 = .ok (.ireturn, 1) := by decide +kernel
theorem dX2_kinds_0 : decode cX2_kinds 0 = .ok (.aload_n 0, 1) := by decide +kernel
theorem dX2_kinds_1 : decode cX2_kinds 1 = .ok (.iload_n 1, 1) := by decide +kernel
theorem dX2_kinds_2 : decode cX2_kinds 2 = .ok (.invokevirtual 145, 3) := by decide +kernel
theorem dX2_kinds_5 : decode cX2_kinds 5 = .ok (.ifCond .eq 10, 3) := by decide +kernel
theorem dX2_kinds_8 : decode cX2_kinds 8 = .ok (.iload_n 2, 1) := by decide +kernel
theorem dX2_kinds_9 : decode cX2_kinds 9 = .ok (.invokestatic 86, 3) := by decide +kernel
theorem dX2_kinds_12 : decode cX2_kinds 12 = .ok (.ifCond .ne 5, 3) := by decide +kernel
theorem dX2_kinds_15 : decode cX2_kinds 15 = .ok (.iconst (-1), 1) := by decide +kernel
theorem dX2_kinds_16 : decode cX2_kinds 16 = .ok (.ireturn, 1) := by decide +kernel
theorem dX2_kinds_17 : decode cX2_kinds 17 = .ok (.aload_n 0, 1) := by decide +kernel
theorem dX2_kinds_18 : decode cX2_kinds 18 = .ok (.iload_n 2, 1) := by decide +kernel
theorem dX2_kinds_19 : decode cX2_kinds 19 = .ok (.invokevirtual 186, 3) := by decide +kernel
theorem dX2_kinds_22 : decode cX2_kinds 22 = .ok (.istore_n 3, 1) := by decide +kernel
theorem dX2_kinds_23 : decode cX2_kinds 23 = .ok (.iload_n 3, 1) := by decide +kernel
theorem dX2_kinds_24 : decode cX2_kinds 24 = .ok (.ifCond .eq 11, 3) := by decide +kernel
theorem dX2_kinds_27 : decode cX2_kinds 27 = .ok (.aload_n 0, 1) := by decide +kernel
theorem dX2_kinds_28 : decode cX2_kinds 28 = .ok (.iload_n 3, 1) := by decide +kernel
theorem dX2_kinds_29 : decode cX2_kinds 29 = .ok (.invokevirtual 90, 3) := by decide +kernel
theorem dX2_kinds_32 : decode cX2_kinds 32 = .ok (.goto 9, 3) := by decide +kernel
theorem dX2_kinds_35 : decode cX2_kinds 35 = .ok (.aload_n 0, 1) := by decide +kernel
theorem dX2_kinds_36 : decode cX2_kinds 36 = .ok (.iload_n 1, 1) := by decide +kernel
theorem dX2_kinds_37 : decode cX2_kinds 37 = .ok (.iload_n 2, 1) := by decide +kernel
theorem dX2_kinds_38 : decode cX2_kinds 38 = .ok (.invokevirtual 189, 3) := by decide +kernel
theorem dX2_kinds_41 : decode cX2_kinds 41 = .ok (.ireturn, 1) := by decide +kernel
theorem dX2_words_0 : decode cX2_words 0 = .ok (.aload_n 0, 1) := by decide +kernel
theorem dX2_words_1 : decode cX2_words 1 = .ok (.iload_n 1, 1) := by decide +kernel
theorem dX2_words_2 : decode cX2_words 2 = .ok (.invokevirtual 145, 3) := by decide +kernel
theorem dX2_words_5 : decode cX2_words 5 = .ok (.ifCond .eq 10, 3) := by decide +kernel
theorem dX2_words_8 : decode cX2_words 8 = .ok (.iload_n 2, 1) := by decide +kernel
theorem dX2_words_9 : decode cX2_words 9 = .ok (.invokestatic 86, 3) := by decide +kernel
theorem dX2_words_12 : decode cX2_words 12 = .ok (.ifCond .ne 5, 3) := by decide +kernel
theorem dX2_words_15 : decode cX2_words 15 = .ok (.iconst (-1), 1) := by decide +kernel
theorem dX2_words_16 : decode cX2_words 16 = .ok (.ireturn, 1) := by decide +kernel
theorem dX2_words_17 : decode cX2_words 17 = .ok (.aload_n 0, 1) := by decide +kernel
theorem dX2_words_18 : decode cX2_words 18 = .ok (.iload_n 2, 1) := by decide +kernel
theorem dX2_words_19 : decode cX2_words 19 = .ok (.invokevirtual 186, 3) := by decide +kernel
theorem dX2_words_22 : decode cX2_words 22 = .ok (.istore_n 3, 1) := by decide +kernel
theorem dX2_words_23 : decode cX2_words 23 = .ok (.iload_n 3, 1) := by decide +kernel
theorem dX2_words_24 : decode cX2_words 24 = .ok (.ifCond .eq 9, 3) := by decide +kernel
theorem dX2_words_27 : decode cX2_words 27 = .ok (.aload_n 0, 1) := by decide +kernel
theorem dX2_words_28 : decode cX2_words 28 = .ok (.iload_n 3, 1) := by decide +kernel
theorem dX2_words_29 : decode cX2_words 29 = .ok (.invokevirtual 90, 3) := by decide +kernel
theorem dX2_words_32 : decode cX2_words 32 = .ok (.ireturn, 1) := by decide +kernel
theorem dX2_words_33 : decode cX2_words 33 = .ok (.iconst 0, 1) := by decide +kernel
theorem dX2_words_34 : decode cX2_words 34 = .ok (.istore 4, 2) := by decide +kernel
theorem dX2_words_36 : decode cX2_words 36 = .ok (.iconst 0, 1) := by decide +kernel
theorem dX2_words_37 : decode cX2_words 37 = .ok (.istore 5, 2) := by decide +kernel
theorem dX2_words_39 : decode cX2_words 39 = .ok (.iconst 1, 1) := by decide +kernel
theorem dX2_words_40 : decode cX2_words 40 = .ok (.aload_n 0, 1) := by decide +kernel
theorem dX2_words_41 : decode cX2_words 41 = .ok (.getfield 25, 3) := by decide +kernel
theorem dX2_words_44 : decode cX2_words 44 = .ok (.iload_n 1, 1) := by decide +kernel
theorem dX2_words_45 : decode cX2_words 45 = .ok (.iaload, 1) := by decide +kernel
theorem dX2_words_46 : decode cX2_words 46 = .ok (.ishl, 1) := by decide +kernel
theorem dX2_words_47 : decode cX2_words 47 = .ok (.iconst 1, 1) := by decide +kernel
theorem dX2_words_48 : decode cX2_words 48 = .ok (.isub, 1) := by decide +kernel
theorem dX2_words_49 : decode cX2_words 49 = .ok (.istore 6, 2) := by decide +kernel
theorem dX2_words_51 : decode cX2_words 51 = .ok (.iload 6, 2) := by decide +kernel
theorem dX2_words_53 : decode cX2_words 53 = .ok (.ifCond .lt 39, 3) := by decide +kernel
theorem dX2_words_56 : decode cX2_words 56 = .ok (.aload_n 0, 1) := by decide +kernel
theorem dX2_words_57 : decode cX2_words 57 = .ok (.invokevirtual 173, 3) := by decide +kernel
theorem dX2_words_60 : decode cX2_words 60 = .ok (.aload_n 0, 1) := by decide +kernel
theorem dX2_words_61 : decode cX2_words 61 = .ok (.getfield 34, 3) := by decide +kernel
theorem dX2_words_64 : decode cX2_words 64 = .ok (.iconst 1, 1) := by decide +kernel
theorem dX2_words_65 : decode cX2_words 65 = .ok (.iload_n 1, 1) := by decide +kernel
theorem dX2_words_66 : decode cX2_words 66 = .ok (.iadd, 1) := by decide +kernel
theorem dX2_words_67 : decode cX2_words 67 = .ok (.iload 6, 2) := by decide +kernel
theorem dX2_words_69 : decode cX2_words 69 = .ok (.iastore, 1) := by decide +kernel
theorem dX2_words_70 : decode cX2_words 70 = .ok (.aload_n 0, 1) := by decide +kernel
theorem dX2_words_71 : decode cX2_words 71 = .ok (.iload_n 1, 1) := by decide +kernel
theorem dX2_words_72 : decode cX2_words 72 = .ok (.iload_n 2, 1) := by decide +kernel
theorem dX2_words_73 : decode cX2_words 73 = .ok (.invokevirtual 183, 3) := by decide +kernel
theorem dX2_words_76 : decode cX2_words 76 = .ok (.ifCond .eq 10, 3) := by decide +kernel
theorem dX2_words_79 : decode cX2_words 79 = .ok (.iinc 4 1, 3) := by decide +kernel
theorem dX2_words_82 : decode cX2_words 82 = .ok (.iload 6, 2) := by decide +kernel
theorem dX2_words_84 : decode cX2_words 84 = .ok (.istore 5, 2) := by decide +kernel
theorem dX2_words_86 : decode cX2_words 86 = .ok (.iinc 6 (-1), 3) := by decide +kernel
theorem dX2_words_89 : decode cX2_words 89 = .ok (.goto (-38), 3) := by decide +kernel
theorem dX2_words_92 : decode cX2_words 92 = .ok (.iload 4, 2) := by decide +kernel
theorem dX2_words_94 : decode cX2_words 94 = .ok (.ifCond .ne 8, 3) := by decide +kernel
theorem dX2_words_97 : decode cX2_words 97 = .ok (.bipush (-9), 2) := by decide +kernel
theorem dX2_words_99 : decode cX2_words 99 = .ok (.goto 11, 3) := by decide +kernel
theorem dX2_words_102 : decode cX2_words 102 = .ok (.aload_n 0, 1) := by decide +kernel
theorem dX2_words_103 : decode cX2_words 103 = .ok (.iload 5, 2) := by decide +kernel
theorem dX2_words_105 : decode cX2_words 105 = .ok (.iload 4, 2) := by decide +kernel
theorem dX2_words_107 : decode cX2_words 107 = .ok (.invokevirtual 102, 3) := by decide +kernel
theorem dX2_words_110 : decode cX2_words 110 = .ok (.ireturn, 1) := by decide +kernel
theorem dX2_greatest_0 : decode cX2_greatest 0 = .ok (.aload_n 0, 1) := by decide +kernel
theorem dX2_greatest_1 : decode cX2_greatest 1 = .ok (.getfield 22, 3) := by decide +kernel
theorem dX2_greatest_4 : decode cX2_greatest 4 = .ok (.iload_n 1, 1) := by decide +kernel
theorem dX2_greatest_5 : decode cX2_greatest 5 = .ok (.iaload, 1) := by decide +kernel
theorem dX2_greatest_6 : decode cX2_greatest 6 = .ok (.istore 4, 2) := by decide +kernel
theorem dX2_greatest_8 : decode cX2_greatest 8 = .ok (.iconst 0, 1) := by decide +kernel
theorem dX2_greatest_9 : decode cX2_greatest 9 = .ok (.istore 5, 2) := by decide +kernel
theorem dX2_greatest_11 : decode cX2_greatest 11 = .ok (.iload 5, 2) := by decide +kernel
theorem dX2_greatest_13 : decode cX2_greatest 13 = .ok (.bipush 6, 2) := by decide +kernel
theorem dX2_greatest_15 : decode cX2_greatest 15 = .ok (.if_icmp .ge 41, 3) := by decide +kernel
theorem dX2_greatest_18 : decode cX2_greatest 18 = .ok (.aload_n 0, 1) := by decide +kernel
theorem dX2_greatest_19 : decode cX2_greatest 19 = .ok (.getfield 22, 3) := by decide +kernel
theorem dX2_greatest_22 : decode cX2_greatest 22 = .ok (.iload_n 1, 1) := by decide +kernel
theorem dX2_greatest_23 : decode cX2_greatest 23 = .ok (.iload 5, 2) := by decide +kernel
theorem dX2_greatest_25 : decode cX2_greatest 25 = .ok (.iastore, 1) := by decide +kernel
theorem dX2_greatest_26 : decode cX2_greatest 26 = .ok (.aload_n 0, 1) := by decide +kernel
theorem dX2_greatest_27 : decode cX2_greatest 27 = .ok (.invokevirtual 173, 3) := by decide +kernel
theorem dX2_greatest_30 : decode cX2_greatest 30 = .ok (.aload_n 0, 1) := by decide +kernel
theorem dX2_greatest_31 : decode cX2_greatest 31 = .ok (.iload_n 3, 1) := by decide +kernel
theorem dX2_greatest_32 : decode cX2_greatest 32 = .ok (.invokevirtual 176, 3) := by decide +kernel
theorem dX2_greatest_35 : decode cX2_greatest 35 = .ok (.aload_n 0, 1) := by decide +kernel
theorem dX2_greatest_36 : decode cX2_greatest 36 = .ok (.getfield 66, 3) := by decide +kernel
theorem dX2_greatest_39 : decode cX2_greatest 39 = .ok (.iload 5, 2) := by decide +kernel
theorem dX2_greatest_41 : decode cX2_greatest 41 = .ok (.aload_n 0, 1) := by decide +kernel
theorem dX2_greatest_42 : decode cX2_greatest 42 = .ok (.getfield 34, 3) := by decide +kernel
theorem dX2_greatest_45 : decode cX2_greatest 45 = .ok (.iconst 1, 1) := by decide +kernel
theorem dX2_greatest_46 : decode cX2_greatest 46 = .ok (.iload_n 1, 1) := by decide +kernel
theorem dX2_greatest_47 : decode cX2_greatest 47 = .ok (.iadd, 1) := by decide +kernel
theorem dX2_greatest_48 : decode cX2_greatest 48 = .ok (.iaload, 1) := by decide +kernel
theorem dX2_greatest_49 : decode cX2_greatest 49 = .ok (.iastore, 1) := by decide +kernel
theorem dX2_greatest_50 : decode cX2_greatest 50 = .ok (.iinc 5 1, 3) := by decide +kernel
theorem dX2_greatest_53 : decode cX2_greatest 53 = .ok (.goto (-42), 3) := by decide +kernel
theorem dX2_greatest_56 : decode cX2_greatest 56 = .ok (.aload_n 0, 1) := by decide +kernel
theorem dX2_greatest_57 : decode cX2_greatest 57 = .ok (.getfield 22, 3) := by decide +kernel
theorem dX2_greatest_60 : decode cX2_greatest 60 = .ok (.iload_n 1, 1) := by decide +kernel
theorem dX2_greatest_61 : decode cX2_greatest 61 = .ok (.iload 4, 2) := by decide +kernel
theorem dX2_greatest_63 : decode cX2_greatest 63 = .ok (.iastore, 1) := by decide +kernel
theorem dX2_greatest_64 : decode cX2_greatest 64 = .ok (.iconst 0, 1) := by decide +kernel
theorem dX2_greatest_65 : decode cX2_greatest 65 = .ok (.istore 5, 2) := by decide +kernel
theorem dX2_greatest_67 : decode cX2_greatest 67 = .ok (.iconst 0, 1) := by decide +kernel
theorem dX2_greatest_68 : decode cX2_greatest 68 = .ok (.istore 6, 2) := by decide +kernel
theorem dX2_greatest_70 : decode cX2_greatest 70 = .ok (.iload 6, 2) := by decide +kernel
theorem dX2_greatest_72 : decode cX2_greatest 72 = .ok (.bipush 6, 2) := by decide +kernel
theorem dX2_greatest_74 : decode cX2_greatest 74 = .ok (.if_icmp .ge 91, 3) := by decide +kernel
theorem dX2_greatest_77 : decode cX2_greatest 77 = .ok (.iconst 0, 1) := by decide +kernel
theorem dX2_greatest_78 : decode cX2_greatest 78 = .ok (.istore 7, 2) := by decide +kernel
theorem dX2_greatest_80 : decode cX2_greatest 80 = .ok (.iconst 0, 1) := by decide +kernel
theorem dX2_greatest_81 : decode cX2_greatest 81 = .ok (.istore 8, 2) := by decide +kernel
theorem dX2_greatest_83 : decode cX2_greatest 83 = .ok (.iload 8, 2) := by decide +kernel
theorem dX2_greatest_85 : decode cX2_greatest 85 = .ok (.bipush 6, 2) := by decide +kernel
theorem dX2_greatest_87 : decode cX2_greatest 87 = .ok (.if_icmp .ge 56, 3) := by decide +kernel
theorem dX2_greatest_90 : decode cX2_greatest 90 = .ok (.iload 7, 2) := by decide +kernel
theorem dX2_greatest_92 : decode cX2_greatest 92 = .ok (.iload_n 2, 1) := by decide +kernel
theorem dX2_greatest_93 : decode cX2_greatest 93 = .ok (.iload 6, 2) := by decide +kernel
theorem dX2_greatest_95 : decode cX2_greatest 95 = .ok (.ishr, 1) := by decide +kernel
theorem dX2_greatest_96 : decode cX2_greatest 96 = .ok (.iconst 1, 1) := by decide +kernel
theorem dX2_greatest_97 : decode cX2_greatest 97 = .ok (.iand, 1) := by decide +kernel
theorem dX2_greatest_98 : decode cX2_greatest 98 = .ok (.iconst 1, 1) := by decide +kernel
theorem dX2_greatest_99 : decode cX2_greatest 99 = .ok (.if_icmp .ne 34, 3) := by decide +kernel
theorem dX2_greatest_102 : decode cX2_greatest 102 = .ok (.iload_n 2, 1) := by decide +kernel
theorem dX2_greatest_103 : decode cX2_greatest 103 = .ok (.iload 8, 2) := by decide +kernel
theorem dX2_greatest_105 : decode cX2_greatest 105 = .ok (.ishr, 1) := by decide +kernel
theorem dX2_greatest_106 : decode cX2_greatest 106 = .ok (.iconst 1, 1) := by decide +kernel
theorem dX2_greatest_107 : decode cX2_greatest 107 = .ok (.iand, 1) := by decide +kernel
theorem dX2_greatest_108 : decode cX2_greatest 108 = .ok (.iconst 1, 1) := by decide +kernel
theorem dX2_greatest_109 : decode cX2_greatest 109 = .ok (.if_icmp .ne 24, 3) := by decide +kernel
theorem dX2_greatest_112 : decode cX2_greatest 112 = .ok (.aload_n 0, 1) := by decide +kernel
theorem dX2_greatest_113 : decode cX2_greatest 113 = .ok (.getfield 66, 3) := by decide +kernel
theorem dX2_greatest_116 : decode cX2_greatest 116 = .ok (.iload 6, 2) := by decide +kernel
theorem dX2_greatest_118 : decode cX2_greatest 118 = .ok (.iaload, 1) := by decide +kernel
theorem dX2_greatest_119 : decode cX2_greatest 119 = .ok (.aload_n 0, 1) := by decide +kernel
theorem dX2_greatest_120 : decode cX2_greatest 120 = .ok (.getfield 66, 3) := by decide +kernel
theorem dX2_greatest_123 : decode cX2_greatest 123 = .ok (.iload 8, 2) := by decide +kernel
theorem dX2_greatest_125 : decode cX2_greatest 125 = .ok (.iaload, 1) := by decide +kernel
theorem dX2_greatest_126 : decode cX2_greatest 126 = .ok (.if_icmp .ne 7, 3) := by decide +kernel
theorem dX2_greatest_129 : decode cX2_greatest 129 = .ok (.iconst 1, 1) := by decide +kernel
theorem dX2_greatest_130 : decode cX2_greatest 130 = .ok (.goto 4, 3) := by decide +kernel
theorem dX2_greatest_133 : decode cX2_greatest 133 = .ok (.iconst 0, 1) := by decide +kernel
theorem dX2_greatest_134 : decode cX2_greatest 134 = .ok (.iadd, 1) := by decide +kernel
theorem dX2_greatest_135 : decode cX2_greatest 135 = .ok (.istore 7, 2) := by decide +kernel
theorem dX2_greatest_137 : decode cX2_greatest 137 = .ok (.iinc 8 1, 3) := by decide +kernel
theorem dX2_greatest_140 : decode cX2_greatest 140 = .ok (.goto (-57), 3) := by decide +kernel
theorem dX2_greatest_143 : decode cX2_greatest 143 = .ok (.iload 7, 2) := by decide +kernel
theorem dX2_greatest_145 : decode cX2_greatest 145 = .ok (.iload 5, 2) := by decide +kernel
theorem dX2_greatest_147 : decode cX2_greatest 147 = .ok (.if_icmp .le 8, 3) := by decide +kernel
theorem dX2_greatest_150 : decode cX2_greatest 150 = .ok (.iload 7, 2) := by decide +kernel
theorem dX2_greatest_152 : decode cX2_greatest 152 = .ok (.goto 5, 3) := by decide +kernel
theorem dX2_greatest_155 : decode cX2_greatest 155 = .ok (.iload 5, 2) := by decide +kernel
theorem dX2_greatest_157 : decode cX2_greatest 157 = .ok (.istore 5, 2) := by decide +kernel
theorem dX2_greatest_159 : decode cX2_greatest 159 = .ok (.iinc 6 1, 3) := by decide +kernel
theorem dX2_greatest_162 : decode cX2_greatest 162 = .ok (.goto (-92), 3) := by decide +kernel
theorem dX2_greatest_165 : decode cX2_greatest 165 = .ok (.iload 5, 2) := by decide +kernel
theorem dX2_greatest_167 : decode cX2_greatest 167 = .ok (.ireturn, 1) := by decide +kernel
theorem dX2_test_0 : decode cX2_test 0 = .ok (.aload_n 0, 1) := by decide +kernel
theorem dX2_test_1 : decode cX2_test 1 = .ok (.iload_n 1, 1) := by decide +kernel
theorem dX2_test_2 : decode cX2_test 2 = .ok (.invokevirtual 145, 3) := by decide +kernel
theorem dX2_test_5 : decode cX2_test 5 = .ok (.ifCond .eq 10, 3) := by decide +kernel
theorem dX2_test_8 : decode cX2_test 8 = .ok (.iload_n 2, 1) := by decide +kernel
theorem dX2_test_9 : decode cX2_test 9 = .ok (.invokestatic 86, 3) := by decide +kernel
theorem dX2_test_12 : decode cX2_test 12 = .ok (.ifCond .ne 5, 3) := by decide +kernel
theorem dX2_test_15 : decode cX2_test 15 = .ok (.iconst (-1), 1) := by decide +kernel
theorem dX2_test_16 : decode cX2_test 16 = .ok (.ireturn, 1) := by decide +kernel
theorem dX2_test_17 : decode cX2_test 17 = .ok (.aload_n 0, 1) := by decide +kernel
theorem dX2_test_18 : decode cX2_test 18 = .ok (.iload_n 2, 1) := by decide +kernel
theorem dX2_test_19 : decode cX2_test 19 = .ok (.invokevirtual 186, 3) := by decide +kernel
theorem dX2_test_22 : decode cX2_test 22 = .ok (.istore_n 3, 1) := by decide +kernel
theorem dX2_test_23 : decode cX2_test 23 = .ok (.iload_n 3, 1) := by decide +kernel
theorem dX2_test_24 : decode cX2_test 24 = .ok (.ifCond .eq 9, 3) := by decide +kernel
theorem dX2_test_27 : decode cX2_test 27 = .ok (.aload_n 0, 1) := by decide +kernel
theorem dX2_test_28 : decode cX2_test 28 = .ok (.iload_n 3, 1) := by decide +kernel
theorem dX2_test_29 : decode cX2_test 29 = .ok (.invokevirtual 90, 3) := by decide +kernel
theorem dX2_test_32 : decode cX2_test 32 = .ok (.ireturn, 1) := by decide +kernel
theorem dX2_test_33 : decode cX2_test 33 = .ok (.aload_n 0, 1) := by decide +kernel
theorem dX2_test_34 : decode cX2_test 34 = .ok (.iload_n 1, 1) := by decide +kernel
theorem dX2_test_35 : decode cX2_test 35 = .ok (.iload_n 2, 1) := by decide +kernel
theorem dX2_test_36 : decode cX2_test 36 = .ok (.invokevirtual 189, 3) := by decide +kernel
theorem dX2_test_39 : decode cX2_test 39 = .ok (.istore 4, 2) := by decide +kernel
theorem dX2_test_41 : decode cX2_test 41 = .ok (.iload 4, 2) := by decide +kernel
theorem dX2_test_43 : decode cX2_test 43 = .ok (.ifCond .ne 6, 3) := by decide +kernel
theorem dX2_test_46 : decode cX2_test 46 = .ok (.bipush (-9), 2) := by decide +kernel
theorem dX2_test_48 : decode cX2_test 48 = .ok (.ireturn, 1) := by decide +kernel
theorem dX2_test_49 : decode cX2_test 49 = .ok (.iconst 0, 1) := by decide +kernel
theorem dX2_test_50 : decode cX2_test 50 = .ok (.istore 5, 2) := by decide +kernel
theorem dX2_test_52 : decode cX2_test 52 = .ok (.bipush 7, 2) := by decide +kernel
theorem dX2_test_54 : decode cX2_test 54 = .ok (.istore 6, 2) := by decide +kernel
theorem dX2_test_56 : decode cX2_test 56 = .ok (.iconst 1, 1) := by decide +kernel
theorem dX2_test_57 : decode cX2_test 57 = .ok (.istore 7, 2) := by decide +kernel
theorem dX2_test_59 : decode cX2_test 59 = .ok (.iload 7, 2) := by decide +kernel
theorem dX2_test_61 : decode cX2_test 61 = .ok (.bipush 20, 2) := by decide +kernel
theorem dX2_test_63 : decode cX2_test 63 = .ok (.if_icmp .gt 52, 3) := by decide +kernel
theorem dX2_test_66 : decode cX2_test 66 = .ok (.aload_n 0, 1) := by decide +kernel
theorem dX2_test_67 : decode cX2_test 67 = .ok (.iload_n 1, 1) := by decide +kernel
theorem dX2_test_68 : decode cX2_test 68 = .ok (.iload 4, 2) := by decide +kernel
theorem dX2_test_70 : decode cX2_test 70 = .ok (.iload 7, 2) := by decide +kernel
theorem dX2_test_72 : decode cX2_test 72 = .ok (.invokevirtual 192, 3) := by decide +kernel
theorem dX2_test_75 : decode cX2_test 75 = .ok (.istore 8, 2) := by decide +kernel
theorem dX2_test_77 : decode cX2_test 77 = .ok (.iload 8, 2) := by decide +kernel
theorem dX2_test_79 : decode cX2_test 79 = .ok (.iload 6, 2) := by decide +kernel
theorem dX2_test_81 : decode cX2_test 81 = .ok (.if_icmp .ge 8, 3) := by decide +kernel
theorem dX2_test_84 : decode cX2_test 84 = .ok (.iload 7, 2) := by decide +kernel
theorem dX2_test_86 : decode cX2_test 86 = .ok (.goto 5, 3) := by decide +kernel
theorem dX2_test_89 : decode cX2_test 89 = .ok (.iload 5, 2) := by decide +kernel
theorem dX2_test_91 : decode cX2_test 91 = .ok (.istore 5, 2) := by decide +kernel
theorem dX2_test_93 : decode cX2_test 93 = .ok (.iload 8, 2) := by decide +kernel
theorem dX2_test_95 : decode cX2_test 95 = .ok (.iload 6, 2) := by decide +kernel
theorem dX2_test_97 : decode cX2_test 97 = .ok (.if_icmp .ge 8, 3) := by decide +kernel
theorem dX2_test_100 : decode cX2_test 100 = .ok (.iload 8, 2) := by decide +kernel
theorem dX2_test_102 : decode cX2_test 102 = .ok (.goto 5, 3) := by decide +kernel
theorem dX2_test_105 : decode cX2_test 105 = .ok (.iload 6, 2) := by decide +kernel
theorem dX2_test_107 : decode cX2_test 107 = .ok (.istore 6, 2) := by decide +kernel
theorem dX2_test_109 : decode cX2_test 109 = .ok (.iinc 7 1, 3) := by decide +kernel
theorem dX2_test_112 : decode cX2_test 112 = .ok (.goto (-53), 3) := by decide +kernel
theorem dX2_test_115 : decode cX2_test 115 = .ok (.aload_n 0, 1) := by decide +kernel
theorem dX2_test_116 : decode cX2_test 116 = .ok (.iload 6, 2) := by decide +kernel
theorem dX2_test_118 : decode cX2_test 118 = .ok (.iload 5, 2) := by decide +kernel
theorem dX2_test_120 : decode cX2_test 120 = .ok (.invokevirtual 102, 3) := by decide +kernel
theorem dX2_test_123 : decode cX2_test 123 = .ok (.ireturn, 1) := by decide +kernel
theorem dX2_worthOf_0 : decode cX2_worthOf 0 = .ok (.aload_n 0, 1) := by decide +kernel
theorem dX2_worthOf_1 : decode cX2_worthOf 1 = .ok (.invokevirtual 173, 3) := by decide +kernel
theorem dX2_worthOf_4 : decode cX2_worthOf 4 = .ok (.iconst 0, 1) := by decide +kernel
theorem dX2_worthOf_5 : decode cX2_worthOf 5 = .ok (.istore_n 3, 1) := by decide +kernel
theorem dX2_worthOf_6 : decode cX2_worthOf 6 = .ok (.iload_n 3, 1) := by decide +kernel
theorem dX2_worthOf_7 : decode cX2_worthOf 7 = .ok (.iload_n 2, 1) := by decide +kernel
theorem dX2_worthOf_8 : decode cX2_worthOf 8 = .ok (.if_icmp .ge 82, 3) := by decide +kernel
theorem dX2_worthOf_11 : decode cX2_worthOf 11 = .ok (.iload_n 1, 1) := by decide +kernel
theorem dX2_worthOf_12 : decode cX2_worthOf 12 = .ok (.iconst 3, 1) := by decide +kernel
theorem dX2_worthOf_13 : decode cX2_worthOf 13 = .ok (.iload_n 2, 1) := by decide +kernel
theorem dX2_worthOf_14 : decode cX2_worthOf 14 = .ok (.iconst 1, 1) := by decide +kernel
theorem dX2_worthOf_15 : decode cX2_worthOf 15 = .ok (.isub, 1) := by decide +kernel
theorem dX2_worthOf_16 : decode cX2_worthOf 16 = .ok (.iload_n 3, 1) := by decide +kernel
theorem dX2_worthOf_17 : decode cX2_worthOf 17 = .ok (.isub, 1) := by decide +kernel
theorem dX2_worthOf_18 : decode cX2_worthOf 18 = .ok (.imul, 1) := by decide +kernel
theorem dX2_worthOf_19 : decode cX2_worthOf 19 = .ok (.ishr, 1) := by decide +kernel
theorem dX2_worthOf_20 : decode cX2_worthOf 20 = .ok (.bipush 7, 2) := by decide +kernel
theorem dX2_worthOf_22 : decode cX2_worthOf 22 = .ok (.iand, 1) := by decide +kernel
theorem dX2_worthOf_23 : decode cX2_worthOf 23 = .ok (.iconst 1, 1) := by decide +kernel
theorem dX2_worthOf_24 : decode cX2_worthOf 24 = .ok (.isub, 1) := by decide +kernel
theorem dX2_worthOf_25 : decode cX2_worthOf 25 = .ok (.istore 4, 2) := by decide +kernel
theorem dX2_worthOf_27 : decode cX2_worthOf 27 = .ok (.iload 4, 2) := by decide +kernel
theorem dX2_worthOf_29 : decode cX2_worthOf 29 = .ok (.aload_n 0, 1) := by decide +kernel
theorem dX2_worthOf_30 : decode cX2_worthOf 30 = .ok (.getfield 79, 3) := by decide +kernel
theorem dX2_worthOf_33 : decode cX2_worthOf 33 = .ok (.if_icmp .lt 5, 3) := by decide +kernel
theorem dX2_worthOf_36 : decode cX2_worthOf 36 = .ok (.iconst (-1), 1) := by decide +kernel
theorem dX2_worthOf_37 : decode cX2_worthOf 37 = .ok (.ireturn, 1) := by decide +kernel
theorem dX2_worthOf_38 : decode cX2_worthOf 38 = .ok (.iload 4, 2) := by decide +kernel
theorem dX2_worthOf_40 : decode cX2_worthOf 40 = .ok (.ifCond .lt 44, 3) := by decide +kernel
theorem dX2_worthOf_43 : decode cX2_worthOf 43 = .ok (.aload_n 0, 1) := by decide +kernel
theorem dX2_worthOf_44 : decode cX2_worthOf 44 = .ok (.getfield 34, 3) := by decide +kernel
theorem dX2_worthOf_47 : decode cX2_worthOf 47 = .ok (.iconst 1, 1) := by decide +kernel
theorem dX2_worthOf_48 : decode cX2_worthOf 48 = .ok (.iload 4, 2) := by decide +kernel
theorem dX2_worthOf_50 : decode cX2_worthOf 50 = .ok (.iadd, 1) := by decide +kernel
theorem dX2_worthOf_51 : decode cX2_worthOf 51 = .ok (.iload_n 3, 1) := by decide +kernel
theorem dX2_worthOf_52 : decode cX2_worthOf 52 = .ok (.iconst 2, 1) := by decide +kernel
theorem dX2_worthOf_53 : decode cX2_worthOf 53 = .ok (.irem, 1) := by decide +kernel
theorem dX2_worthOf_54 : decode cX2_worthOf 54 = .ok (.ifCond .ne 17, 3) := by decide +kernel
theorem dX2_worthOf_57 : decode cX2_worthOf 57 = .ok (.aload_n 0, 1) := by decide +kernel
theorem dX2_worthOf_58 : decode cX2_worthOf 58 = .ok (.getfield 34, 3) := by decide +kernel
theorem dX2_worthOf_61 : decode cX2_worthOf 61 = .ok (.iconst 1, 1) := by decide +kernel
theorem dX2_worthOf_62 : decode cX2_worthOf 62 = .ok (.iload 4, 2) := by decide +kernel
theorem dX2_worthOf_64 : decode cX2_worthOf 64 = .ok (.iadd, 1) := by decide +kernel
theorem dX2_worthOf_65 : decode cX2_worthOf 65 = .ok (.iaload, 1) := by decide +kernel
theorem dX2_worthOf_66 : decode cX2_worthOf 66 = .ok (.iconst 1, 1) := by decide +kernel
theorem dX2_worthOf_67 : decode cX2_worthOf 67 = .ok (.ior, 1) := by decide +kernel
theorem dX2_worthOf_68 : decode cX2_worthOf 68 = .ok (.goto 15, 3) := by decide +kernel
theorem dX2_worthOf_71 : decode cX2_worthOf 71 = .ok (.aload_n 0, 1) := by decide +kernel
theorem dX2_worthOf_72 : decode cX2_worthOf 72 = .ok (.getfield 34, 3) := by decide +kernel
theorem dX2_worthOf_75 : decode cX2_worthOf 75 = .ok (.iconst 1, 1) := by decide +kernel
theorem dX2_worthOf_76 : decode cX2_worthOf 76 = .ok (.iload 4, 2) := by decide +kernel
theorem dX2_worthOf_78 : decode cX2_worthOf 78 = .ok (.iadd, 1) := by decide +kernel
theorem dX2_worthOf_79 : decode cX2_worthOf 79 = .ok (.iaload, 1) := by decide +kernel
theorem dX2_worthOf_80 : decode cX2_worthOf 80 = .ok (.bipush (-2), 2) := by decide +kernel
theorem dX2_worthOf_82 : decode cX2_worthOf 82 = .ok (.iand, 1) := by decide +kernel
theorem dX2_worthOf_83 : decode cX2_worthOf 83 = .ok (.iastore, 1) := by decide +kernel
theorem dX2_worthOf_84 : decode cX2_worthOf 84 = .ok (.iinc 3 1, 3) := by decide +kernel
theorem dX2_worthOf_87 : decode cX2_worthOf 87 = .ok (.goto (-81), 3) := by decide +kernel
theorem dX2_worthOf_90 : decode cX2_worthOf 90 = .ok (.aload_n 0, 1) := by decide +kernel
theorem dX2_worthOf_91 : decode cX2_worthOf 91 = .ok (.bipush 8, 2) := by decide +kernel
theorem dX2_worthOf_93 : decode cX2_worthOf 93 = .ok (.invokevirtual 176, 3) := by decide +kernel
theorem dX2_worthOf_96 : decode cX2_worthOf 96 = .ok (.aload_n 0, 1) := by decide +kernel
theorem dX2_worthOf_97 : decode cX2_worthOf 97 = .ok (.aload_n 0, 1) := by decide +kernel
theorem dX2_worthOf_98 : decode cX2_worthOf 98 = .ok (.getfield 34, 3) := by decide +kernel
theorem dX2_worthOf_101 : decode cX2_worthOf 101 = .ok (.invokevirtual 162, 3) := by decide +kernel
theorem dX2_worthOf_104 : decode cX2_worthOf 104 = .ok (.ireturn, 1) := by decide +kernel
theorem dX2_duel_0 : decode cX2_duel 0 = .ok (.iload_n 1, 1) := by decide +kernel
theorem dX2_duel_1 : decode cX2_duel 1 = .ok (.iconst 0, 1) := by decide +kernel
theorem dX2_duel_2 : decode cX2_duel 2 = .ok (.iconst 3, 1) := by decide +kernel
theorem dX2_duel_3 : decode cX2_duel 3 = .ok (.invokestatic 82, 3) := by decide +kernel
theorem dX2_duel_6 : decode cX2_duel 6 = .ok (.ifCond .ne 5, 3) := by decide +kernel
theorem dX2_duel_9 : decode cX2_duel 9 = .ok (.iconst (-1), 1) := by decide +kernel
theorem dX2_duel_10 : decode cX2_duel 10 = .ok (.ireturn, 1) := by decide +kernel
theorem dX2_duel_11 : decode cX2_duel 11 = .ok (.aload_n 0, 1) := by decide +kernel
theorem dX2_duel_12 : decode cX2_duel 12 = .ok (.getfield 79, 3) := by decide +kernel
theorem dX2_duel_15 : decode cX2_duel 15 = .ok (.ifCond .ne 6, 3) := by decide +kernel
theorem dX2_duel_18 : decode cX2_duel 18 = .ok (.bipush (-4), 2) := by decide +kernel
theorem dX2_duel_20 : decode cX2_duel 20 = .ok (.ireturn, 1) := by decide +kernel
theorem dX2_duel_21 : decode cX2_duel 21 = .ok (.iconst 0, 1) := by decide +kernel
theorem dX2_duel_22 : decode cX2_duel 22 = .ok (.istore_n 2, 1) := by decide +kernel
theorem dX2_duel_23 : decode cX2_duel 23 = .ok (.iload_n 2, 1) := by decide +kernel
theorem dX2_duel_24 : decode cX2_duel 24 = .ok (.iconst 1, 1) := by decide +kernel
theorem dX2_duel_25 : decode cX2_duel 25 = .ok (.iconst 3, 1) := by decide +kernel
theorem dX2_duel_26 : decode cX2_duel 26 = .ok (.iload_n 1, 1) := by decide +kernel
end
section
theorem dX2_duel_27 : decode cX2_duel 27 = .ok (.imul, 1) := by decide +kernel
theorem dX2_duel_28 : decode cX2_duel 28 = .ok (.ishl, 1) := by decide +kernel
theorem dX2_duel_29 : decode cX2_duel 29 = .ok (.if_icmp .ge 21, 3) := by decide +kernel
theorem dX2_duel_32 : decode cX2_duel 32 = .ok (.aload_n 0, 1) := by decide +kernel
theorem dX2_duel_33 : decode cX2_duel 33 = .ok (.getfield 69, 3) := by decide +kernel
theorem dX2_duel_36 : decode cX2_duel 36 = .ok (.iload_n 2, 1) := by decide +kernel
theorem dX2_duel_37 : decode cX2_duel 37 = .ok (.aload_n 0, 1) := by decide +kernel
theorem dX2_duel_38 : decode cX2_duel 38 = .ok (.iload_n 2, 1) := by decide +kernel
theorem dX2_duel_39 : decode cX2_duel 39 = .ok (.iload_n 1, 1) := by decide +kernel
theorem dX2_duel_40 : decode cX2_duel 40 = .ok (.invokevirtual 196, 3) := by decide +kernel
theorem dX2_duel_43 : decode cX2_duel 43 = .ok (.iastore, 1) := by decide +kernel
theorem dX2_duel_44 : decode cX2_duel 44 = .ok (.iinc 2 1, 3) := by decide +kernel
theorem dX2_duel_47 : decode cX2_duel 47 = .ok (.goto (-24), 3) := by decide +kernel
theorem dX2_duel_50 : decode cX2_duel 50 = .ok (.iload_n 1, 1) := by decide +kernel
theorem dX2_duel_51 : decode cX2_duel 51 = .ok (.iconst 1, 1) := by decide +kernel
theorem dX2_duel_52 : decode cX2_duel 52 = .ok (.isub, 1) := by decide +kernel
theorem dX2_duel_53 : decode cX2_duel 53 = .ok (.istore_n 2, 1) := by decide +kernel
theorem dX2_duel_54 : decode cX2_duel 54 = .ok (.iload_n 2, 1) := by decide +kernel
theorem dX2_duel_55 : decode cX2_duel 55 = .ok (.ifCond .lt 112, 3) := by decide +kernel
theorem dX2_duel_58 : decode cX2_duel 58 = .ok (.iconst 0, 1) := by decide +kernel
theorem dX2_duel_59 : decode cX2_duel 59 = .ok (.istore_n 3, 1) := by decide +kernel
theorem dX2_duel_60 : decode cX2_duel 60 = .ok (.iload_n 3, 1) := by decide +kernel
theorem dX2_duel_61 : decode cX2_duel 61 = .ok (.iconst 1, 1) := by decide +kernel
theorem dX2_duel_62 : decode cX2_duel 62 = .ok (.iconst 3, 1) := by decide +kernel
theorem dX2_duel_63 : decode cX2_duel 63 = .ok (.iload_n 2, 1) := by decide +kernel
theorem dX2_duel_64 : decode cX2_duel 64 = .ok (.imul, 1) := by decide +kernel
theorem dX2_duel_65 : decode cX2_duel 65 = .ok (.ishl, 1) := by decide +kernel
theorem dX2_duel_66 : decode cX2_duel 66 = .ok (.if_icmp .ge 95, 3) := by decide +kernel
theorem dX2_duel_69 : decode cX2_duel 69 = .ok (.aload_n 0, 1) := by decide +kernel
theorem dX2_duel_70 : decode cX2_duel 70 = .ok (.getfield 69, 3) := by decide +kernel
theorem dX2_duel_73 : decode cX2_duel 73 = .ok (.bipush 8, 2) := by decide +kernel
theorem dX2_duel_75 : decode cX2_duel 75 = .ok (.iload_n 3, 1) := by decide +kernel
theorem dX2_duel_76 : decode cX2_duel 76 = .ok (.imul, 1) := by decide +kernel
theorem dX2_duel_77 : decode cX2_duel 77 = .ok (.iaload, 1) := by decide +kernel
theorem dX2_duel_78 : decode cX2_duel 78 = .ok (.istore 4, 2) := by decide +kernel
theorem dX2_duel_80 : decode cX2_duel 80 = .ok (.iconst 1, 1) := by decide +kernel
theorem dX2_duel_81 : decode cX2_duel 81 = .ok (.istore 5, 2) := by decide +kernel
theorem dX2_duel_83 : decode cX2_duel 83 = .ok (.iload 5, 2) := by decide +kernel
theorem dX2_duel_85 : decode cX2_duel 85 = .ok (.aload_n 0, 1) := by decide +kernel
theorem dX2_duel_86 : decode cX2_duel 86 = .ok (.getfield 79, 3) := by decide +kernel
theorem dX2_duel_89 : decode cX2_duel 89 = .ok (.if_icmp .gt 58, 3) := by decide +kernel
theorem dX2_duel_92 : decode cX2_duel 92 = .ok (.aload_n 0, 1) := by decide +kernel
theorem dX2_duel_93 : decode cX2_duel 93 = .ok (.getfield 69, 3) := by decide +kernel
theorem dX2_duel_96 : decode cX2_duel 96 = .ok (.bipush 8, 2) := by decide +kernel
theorem dX2_duel_98 : decode cX2_duel 98 = .ok (.iload_n 3, 1) := by decide +kernel
theorem dX2_duel_99 : decode cX2_duel 99 = .ok (.imul, 1) := by decide +kernel
theorem dX2_duel_100 : decode cX2_duel 100 = .ok (.iload 5, 2) := by decide +kernel
theorem dX2_duel_102 : decode cX2_duel 102 = .ok (.iadd, 1) := by decide +kernel
theorem dX2_duel_103 : decode cX2_duel 103 = .ok (.iaload, 1) := by decide +kernel
theorem dX2_duel_104 : decode cX2_duel 104 = .ok (.istore 6, 2) := by decide +kernel
theorem dX2_duel_106 : decode cX2_duel 106 = .ok (.iload_n 2, 1) := by decide +kernel
theorem dX2_duel_107 : decode cX2_duel 107 = .ok (.iconst 2, 1) := by decide +kernel
theorem dX2_duel_108 : decode cX2_duel 108 = .ok (.irem, 1) := by decide +kernel
theorem dX2_duel_109 : decode cX2_duel 109 = .ok (.ifCond .ne 7, 3) := by decide +kernel
theorem dX2_duel_112 : decode cX2_duel 112 = .ok (.iconst 1, 1) := by decide +kernel
theorem dX2_duel_113 : decode cX2_duel 113 = .ok (.goto 4, 3) := by decide +kernel
theorem dX2_duel_116 : decode cX2_duel 116 = .ok (.iconst 0, 1) := by decide +kernel
theorem dX2_duel_117 : decode cX2_duel 117 = .ok (.iload 6, 2) := by decide +kernel
theorem dX2_duel_119 : decode cX2_duel 119 = .ok (.iload 4, 2) := by decide +kernel
theorem dX2_duel_121 : decode cX2_duel 121 = .ok (.if_icmp .le 7, 3) := by decide +kernel
theorem dX2_duel_124 : decode cX2_duel 124 = .ok (.iconst 1, 1) := by decide +kernel
theorem dX2_duel_125 : decode cX2_duel 125 = .ok (.goto 4, 3) := by decide +kernel
theorem dX2_duel_128 : decode cX2_duel 128 = .ok (.iconst 0, 1) := by decide +kernel
theorem dX2_duel_129 : decode cX2_duel 129 = .ok (.if_icmp .ne 8, 3) := by decide +kernel
theorem dX2_duel_132 : decode cX2_duel 132 = .ok (.iload 6, 2) := by decide +kernel
theorem dX2_duel_134 : decode cX2_duel 134 = .ok (.goto 5, 3) := by decide +kernel
theorem dX2_duel_137 : decode cX2_duel 137 = .ok (.iload 4, 2) := by decide +kernel
theorem dX2_duel_139 : decode cX2_duel 139 = .ok (.istore 4, 2) := by decide +kernel
theorem dX2_duel_141 : decode cX2_duel 141 = .ok (.iinc 5 1, 3) := by decide +kernel
theorem dX2_duel_144 : decode cX2_duel 144 = .ok (.goto (-61), 3) := by decide +kernel
theorem dX2_duel_147 : decode cX2_duel 147 = .ok (.aload_n 0, 1) := by decide +kernel
theorem dX2_duel_148 : decode cX2_duel 148 = .ok (.getfield 69, 3) := by decide +kernel
theorem dX2_duel_151 : decode cX2_duel 151 = .ok (.iload_n 3, 1) := by decide +kernel
theorem dX2_duel_152 : decode cX2_duel 152 = .ok (.iload 4, 2) := by decide +kernel
theorem dX2_duel_154 : decode cX2_duel 154 = .ok (.iastore, 1) := by decide +kernel
theorem dX2_duel_155 : decode cX2_duel 155 = .ok (.iinc 3 1, 3) := by decide +kernel
theorem dX2_duel_158 : decode cX2_duel 158 = .ok (.goto (-98), 3) := by decide +kernel
theorem dX2_duel_161 : decode cX2_duel 161 = .ok (.iinc 2 (-1), 3) := by decide +kernel
theorem dX2_duel_164 : decode cX2_duel 164 = .ok (.goto (-110), 3) := by decide +kernel
theorem dX2_duel_167 : decode cX2_duel 167 = .ok (.aload_n 0, 1) := by decide +kernel
theorem dX2_duel_168 : decode cX2_duel 168 = .ok (.getfield 69, 3) := by decide +kernel
theorem dX2_duel_171 : decode cX2_duel 171 = .ok (.iconst 0, 1) := by decide +kernel
theorem dX2_duel_172 : decode cX2_duel 172 = .ok (.iaload, 1) := by decide +kernel
theorem dX2_duel_173 : decode cX2_duel 173 = .ok (.ireturn, 1) := by decide +kernel
theorem dX2_common_0 : decode cX2_common 0 = .ok (.lload_n 0, 1) := by decide +kernel
theorem dX2_common_1 : decode cX2_common 1 = .ok (.lstore 4, 2) := by decide +kernel
theorem dX2_common_3 : decode cX2_common 3 = .ok (.lload_n 2, 1) := by decide +kernel
theorem dX2_common_4 : decode cX2_common 4 = .ok (.lstore 6, 2) := by decide +kernel
theorem dX2_common_6 : decode cX2_common 6 = .ok (.lload 6, 2) := by decide +kernel
theorem dX2_common_8 : decode cX2_common 8 = .ok (.lconst 0, 1) := by decide +kernel
theorem dX2_common_9 : decode cX2_common 9 = .ok (.lcmp, 1) := by decide +kernel
theorem dX2_common_10 : decode cX2_common 10 = .ok (.ifCond .eq 21, 3) := by decide +kernel
theorem dX2_common_13 : decode cX2_common 13 = .ok (.lload 4, 2) := by decide +kernel
theorem dX2_common_15 : decode cX2_common 15 = .ok (.lload 6, 2) := by decide +kernel
theorem dX2_common_17 : decode cX2_common 17 = .ok (.lrem, 1) := by decide +kernel
theorem dX2_common_18 : decode cX2_common 18 = .ok (.lstore 8, 2) := by decide +kernel
theorem dX2_common_20 : decode cX2_common 20 = .ok (.lload 6, 2) := by decide +kernel
theorem dX2_common_22 : decode cX2_common 22 = .ok (.lstore 4, 2) := by decide +kernel
theorem dX2_common_24 : decode cX2_common 24 = .ok (.lload 8, 2) := by decide +kernel
theorem dX2_common_26 : decode cX2_common 26 = .ok (.lstore 6, 2) := by decide +kernel
theorem dX2_common_28 : decode cX2_common 28 = .ok (.goto (-22), 3) := by decide +kernel
theorem dX2_common_31 : decode cX2_common 31 = .ok (.lload 4, 2) := by decide +kernel
theorem dX2_common_33 : decode cX2_common 33 = .ok (.lreturn, 1) := by decide +kernel
theorem dX2_tellsPart_0 : decode cX2_tellsPart 0 = .ok (.lload_n 1, 1) := by decide +kernel
theorem dX2_tellsPart_1 : decode cX2_tellsPart 1 = .ok (.lload_n 3, 1) := by decide +kernel
theorem dX2_tellsPart_2 : decode cX2_tellsPart 2 = .ok (.invokestatic 199, 3) := by decide +kernel
theorem dX2_tellsPart_5 : decode cX2_tellsPart 5 = .ok (.lstore 5, 2) := by decide +kernel
theorem dX2_tellsPart_7 : decode cX2_tellsPart 7 = .ok (.aload_n 0, 1) := by decide +kernel
theorem dX2_tellsPart_8 : decode cX2_tellsPart 8 = .ok (.lload_n 1, 1) := by decide +kernel
theorem dX2_tellsPart_9 : decode cX2_tellsPart 9 = .ok (.lload 5, 2) := by decide +kernel
theorem dX2_tellsPart_11 : decode cX2_tellsPart 11 = .ok (.ldiv, 1) := by decide +kernel
theorem dX2_tellsPart_12 : decode cX2_tellsPart 12 = .ok (.putfield 203, 3) := by decide +kernel
theorem dX2_tellsPart_15 : decode cX2_tellsPart 15 = .ok (.aload_n 0, 1) := by decide +kernel
theorem dX2_tellsPart_16 : decode cX2_tellsPart 16 = .ok (.lload_n 3, 1) := by decide +kernel
theorem dX2_tellsPart_17 : decode cX2_tellsPart 17 = .ok (.lload 5, 2) := by decide +kernel
theorem dX2_tellsPart_19 : decode cX2_tellsPart 19 = .ok (.ldiv, 1) := by decide +kernel
theorem dX2_tellsPart_20 : decode cX2_tellsPart 20 = .ok (.putfield 47, 3) := by decide +kernel
theorem dX2_tellsPart_23 : decode cX2_tellsPart 23 = .ok (.iconst 1, 1) := by decide +kernel
theorem dX2_tellsPart_24 : decode cX2_tellsPart 24 = .ok (.ireturn, 1) := by decide +kernel
theorem dX2_failing_0 : decode cX2_failing 0 = .ok (.lconst 0, 1) := by decide +kernel
theorem dX2_failing_1 : decode cX2_failing 1 = .ok (.lstore 4, 2) := by decide +kernel
theorem dX2_failing_3 : decode cX2_failing 3 = .ok (.lconst 0, 1) := by decide +kernel
theorem dX2_failing_4 : decode cX2_failing 4 = .ok (.lstore 6, 2) := by decide +kernel
theorem dX2_failing_6 : decode cX2_failing 6 = .ok (.iconst 0, 1) := by decide +kernel
theorem dX2_failing_7 : decode cX2_failing 7 = .ok (.istore 8, 2) := by decide +kernel
theorem dX2_failing_9 : decode cX2_failing 9 = .ok (.iload 8, 2) := by decide +kernel
theorem dX2_failing_11 : decode cX2_failing 11 = .ok (.iconst 1, 1) := by decide +kernel
theorem dX2_failing_12 : decode cX2_failing 12 = .ok (.aload_n 0, 1) := by decide +kernel
theorem dX2_failing_13 : decode cX2_failing 13 = .ok (.getfield 79, 3) := by decide +kernel
theorem dX2_failing_16 : decode cX2_failing 16 = .ok (.ishl, 1) := by decide +kernel
theorem dX2_failing_17 : decode cX2_failing 17 = .ok (.if_icmp .ge 158, 3) := by decide +kernel
theorem dX2_failing_20 : decode cX2_failing 20 = .ok (.lconst 1, 1) := by decide +kernel
theorem dX2_failing_21 : decode cX2_failing 21 = .ok (.lstore 9, 2) := by decide +kernel
theorem dX2_failing_23 : decode cX2_failing 23 = .ok (.aload_n 0, 1) := by decide +kernel
theorem dX2_failing_24 : decode cX2_failing 24 = .ok (.invokevirtual 173, 3) := by decide +kernel
theorem dX2_failing_27 : decode cX2_failing 27 = .ok (.iconst 0, 1) := by decide +kernel
theorem dX2_failing_28 : decode cX2_failing 28 = .ok (.istore 11, 2) := by decide +kernel
theorem dX2_failing_30 : decode cX2_failing 30 = .ok (.iload 11, 2) := by decide +kernel
theorem dX2_failing_32 : decode cX2_failing 32 = .ok (.aload_n 0, 1) := by decide +kernel
theorem dX2_failing_33 : decode cX2_failing 33 = .ok (.getfield 79, 3) := by decide +kernel
theorem dX2_failing_36 : decode cX2_failing 36 = .ok (.if_icmp .ge 74, 3) := by decide +kernel
theorem dX2_failing_39 : decode cX2_failing 39 = .ok (.iload 8, 2) := by decide +kernel
theorem dX2_failing_41 : decode cX2_failing 41 = .ok (.iload 11, 2) := by decide +kernel
theorem dX2_failing_43 : decode cX2_failing 43 = .ok (.ishr, 1) := by decide +kernel
theorem dX2_failing_44 : decode cX2_failing 44 = .ok (.iconst 1, 1) := by decide +kernel
theorem dX2_failing_45 : decode cX2_failing 45 = .ok (.iand, 1) := by decide +kernel
theorem dX2_failing_46 : decode cX2_failing 46 = .ok (.iconst 1, 1) := by decide +kernel
theorem dX2_failing_47 : decode cX2_failing 47 = .ok (.if_icmp .ne 7, 3) := by decide +kernel
theorem dX2_failing_50 : decode cX2_failing 50 = .ok (.iconst 1, 1) := by decide +kernel
theorem dX2_failing_51 : decode cX2_failing 51 = .ok (.goto 4, 3) := by decide +kernel
theorem dX2_failing_54 : decode cX2_failing 54 = .ok (.iconst 0, 1) := by decide +kernel
theorem dX2_failing_55 : decode cX2_failing 55 = .ok (.istore 12, 2) := by decide +kernel
theorem dX2_failing_57 : decode cX2_failing 57 = .ok (.lload 9, 2) := by decide +kernel
theorem dX2_failing_59 : decode cX2_failing 59 = .ok (.iload 12, 2) := by decide +kernel
theorem dX2_failing_61 : decode cX2_failing 61 = .ok (.ifCond .eq 8, 3) := by decide +kernel
theorem dX2_failing_64 : decode cX2_failing 64 = .ok (.iload_n 3, 1) := by decide +kernel
theorem dX2_failing_65 : decode cX2_failing 65 = .ok (.i2l, 1) := by decide +kernel
theorem dX2_failing_66 : decode cX2_failing 66 = .ok (.goto 8, 3) := by decide +kernel
theorem dX2_failing_69 : decode cX2_failing 69 = .ok (.bipush 12, 2) := by decide +kernel
theorem dX2_failing_71 : decode cX2_failing 71 = .ok (.iload_n 3, 1) := by decide +kernel
theorem dX2_failing_72 : decode cX2_failing 72 = .ok (.isub, 1) := by decide +kernel
theorem dX2_failing_73 : decode cX2_failing 73 = .ok (.i2l, 1) := by decide +kernel
theorem dX2_failing_74 : decode cX2_failing 74 = .ok (.lmul, 1) := by decide +kernel
theorem dX2_failing_75 : decode cX2_failing 75 = .ok (.lstore 9, 2) := by decide +kernel
theorem dX2_failing_77 : decode cX2_failing 77 = .ok (.aload_n 0, 1) := by decide +kernel
theorem dX2_failing_78 : decode cX2_failing 78 = .ok (.getfield 34, 3) := by decide +kernel
theorem dX2_failing_81 : decode cX2_failing 81 = .ok (.iconst 1, 1) := by decide +kernel
theorem dX2_failing_82 : decode cX2_failing 82 = .ok (.iload 11, 2) := by decide +kernel
theorem dX2_failing_84 : decode cX2_failing 84 = .ok (.iadd, 1) := by decide +kernel
theorem dX2_failing_85 : decode cX2_failing 85 = .ok (.iload 12, 2) := by decide +kernel
theorem dX2_failing_87 : decode cX2_failing 87 = .ok (.ifCond .eq 7, 3) := by decide +kernel
theorem dX2_failing_90 : decode cX2_failing 90 = .ok (.iconst 0, 1) := by decide +kernel
theorem dX2_failing_91 : decode cX2_failing 91 = .ok (.goto 12, 3) := by decide +kernel
theorem dX2_failing_94 : decode cX2_failing 94 = .ok (.aload_n 0, 1) := by decide +kernel
theorem dX2_failing_95 : decode cX2_failing 95 = .ok (.getfield 34, 3) := by decide +kernel
theorem dX2_failing_98 : decode cX2_failing 98 = .ok (.iconst 1, 1) := by decide +kernel
theorem dX2_failing_99 : decode cX2_failing 99 = .ok (.iload 11, 2) := by decide +kernel
theorem dX2_failing_101 : decode cX2_failing 101 = .ok (.iadd, 1) := by decide +kernel
theorem dX2_failing_102 : decode cX2_failing 102 = .ok (.iaload, 1) := by decide +kernel
theorem dX2_failing_103 : decode cX2_failing 103 = .ok (.iastore, 1) := by decide +kernel
theorem dX2_failing_104 : decode cX2_failing 104 = .ok (.iinc 11 1, 3) := by decide +kernel
theorem dX2_failing_107 : decode cX2_failing 107 = .ok (.goto (-77), 3) := by decide +kernel
theorem dX2_failing_110 : decode cX2_failing 110 = .ok (.lload 6, 2) := by decide +kernel
theorem dX2_failing_112 : decode cX2_failing 112 = .ok (.lload 9, 2) := by decide +kernel
theorem dX2_failing_114 : decode cX2_failing 114 = .ok (.ladd, 1) := by decide +kernel
theorem dX2_failing_115 : decode cX2_failing 115 = .ok (.lstore 6, 2) := by decide +kernel
theorem dX2_failing_117 : decode cX2_failing 117 = .ok (.lload 9, 2) := by decide +kernel
theorem dX2_failing_119 : decode cX2_failing 119 = .ok (.lconst 0, 1) := by decide +kernel
theorem dX2_failing_120 : decode cX2_failing 120 = .ok (.lcmp, 1) := by decide +kernel
theorem dX2_failing_121 : decode cX2_failing 121 = .ok (.ifCond .le 48, 3) := by decide +kernel
theorem dX2_failing_124 : decode cX2_failing 124 = .ok (.aload_n 0, 1) := by decide +kernel
theorem dX2_failing_125 : decode cX2_failing 125 = .ok (.iload_n 2, 1) := by decide +kernel
theorem dX2_failing_126 : decode cX2_failing 126 = .ok (.invokevirtual 176, 3) := by decide +kernel
theorem dX2_failing_129 : decode cX2_failing 129 = .ok (.aload_n 0, 1) := by decide +kernel
theorem dX2_failing_130 : decode cX2_failing 130 = .ok (.aload_n 0, 1) := by decide +kernel
theorem dX2_failing_131 : decode cX2_failing 131 = .ok (.getfield 34, 3) := by decide +kernel
theorem dX2_failing_134 : decode cX2_failing 134 = .ok (.invokevirtual 162, 3) := by decide +kernel
theorem dX2_failing_137 : decode cX2_failing 137 = .ok (.istore 11, 2) := by decide +kernel
theorem dX2_failing_139 : decode cX2_failing 139 = .ok (.lload 4, 2) := by decide +kernel
theorem dX2_failing_141 : decode cX2_failing 141 = .ok (.iload_n 1, 1) := by decide +kernel
theorem dX2_failing_142 : decode cX2_failing 142 = .ok (.ifCond .ge 12, 3) := by decide +kernel
theorem dX2_failing_145 : decode cX2_failing 145 = .ok (.lload 9, 2) := by decide +kernel
theorem dX2_failing_147 : decode cX2_failing 147 = .ok (.iload 11, 2) := by decide +kernel
theorem dX2_failing_149 : decode cX2_failing 149 = .ok (.i2l, 1) := by decide +kernel
theorem dX2_failing_150 : decode cX2_failing 150 = .ok (.lmul, 1) := by decide +kernel
theorem dX2_failing_151 : decode cX2_failing 151 = .ok (.goto 15, 3) := by decide +kernel
theorem dX2_failing_154 : decode cX2_failing 154 = .ok (.iload 11, 2) := by decide +kernel
theorem dX2_failing_156 : decode cX2_failing 156 = .ok (.iload_n 1, 1) := by decide +kernel
theorem dX2_failing_157 : decode cX2_failing 157 = .ok (.if_icmp .lt 8, 3) := by decide +kernel
theorem dX2_failing_160 : decode cX2_failing 160 = .ok (.lload 9, 2) := by decide +kernel
theorem dX2_failing_162 : decode cX2_failing 162 = .ok (.goto 4, 3) := by decide +kernel
theorem dX2_failing_165 : decode cX2_failing 165 = .ok (.lconst 0, 1) := by decide +kernel
theorem dX2_failing_166 : decode cX2_failing 166 = .ok (.ladd, 1) := by decide +kernel
theorem dX2_failing_167 : decode cX2_failing 167 = .ok (.lstore 4, 2) := by decide +kernel
theorem dX2_failing_169 : decode cX2_failing 169 = .ok (.iinc 8 1, 3) := by decide +kernel
theorem dX2_failing_172 : decode cX2_failing 172 = .ok (.goto (-163), 3) := by decide +kernel
theorem dX2_failing_175 : decode cX2_failing 175 = .ok (.aload_n 0, 1) := by decide +kernel
theorem dX2_failing_176 : decode cX2_failing 176 = .ok (.lload 4, 2) := by decide +kernel
theorem dX2_failing_178 : decode cX2_failing 178 = .ok (.lload 6, 2) := by decide +kernel
theorem dX2_failing_180 : decode cX2_failing 180 = .ok (.invokevirtual 206, 3) := by decide +kernel
theorem dX2_failing_183 : decode cX2_failing 183 = .ok (.ireturn, 1) := by decide +kernel
theorem dX2_odds_0 : decode cX2_odds 0 = .ok (.iload_n 1, 1) := by decide +kernel
theorem dX2_odds_1 : decode cX2_odds 1 = .ok (.iconst 0, 1) := by decide +kernel
theorem dX2_odds_2 : decode cX2_odds 2 = .ok (.bipush 63, 2) := by decide +kernel
theorem dX2_odds_4 : decode cX2_odds 4 = .ok (.invokestatic 82, 3) := by decide +kernel
theorem dX2_odds_7 : decode cX2_odds 7 = .ok (.ifCond .eq 23, 3) := by decide +kernel
theorem dX2_odds_10 : decode cX2_odds 10 = .ok (.iload_n 2, 1) := by decide +kernel
theorem dX2_odds_11 : decode cX2_odds 11 = .ok (.iconst 0, 1) := by decide +kernel
theorem dX2_odds_12 : decode cX2_odds 12 = .ok (.bipush 20, 2) := by decide +kernel
theorem dX2_odds_14 : decode cX2_odds 14 = .ok (.invokestatic 82, 3) := by decide +kernel
theorem dX2_odds_17 : decode cX2_odds 17 = .ok (.ifCond .eq 13, 3) := by decide +kernel
theorem dX2_odds_20 : decode cX2_odds 20 = .ok (.iload_n 3, 1) := by decide +kernel
theorem dX2_odds_21 : decode cX2_odds 21 = .ok (.iconst 0, 1) := by decide +kernel
theorem dX2_odds_22 : decode cX2_odds 22 = .ok (.bipush 12, 2) := by decide +kernel
theorem dX2_odds_24 : decode cX2_odds 24 = .ok (.invokestatic 82, 3) := by decide +kernel
theorem dX2_odds_27 : decode cX2_odds 27 = .ok (.ifCond .ne 5, 3) := by decide +kernel
theorem dX2_odds_30 : decode cX2_odds 30 = .ok (.iconst (-1), 1) := by decide +kernel
theorem dX2_odds_31 : decode cX2_odds 31 = .ok (.ireturn, 1) := by decide +kernel
theorem dX2_odds_32 : decode cX2_odds 32 = .ok (.aload_n 0, 1) := by decide +kernel
theorem dX2_odds_33 : decode cX2_odds 33 = .ok (.getfield 79, 3) := by decide +kernel
theorem dX2_odds_36 : decode cX2_odds 36 = .ok (.ifCond .ne 8, 3) := by decide +kernel
theorem dX2_odds_39 : decode cX2_odds 39 = .ok (.bipush (-4), 2) := by decide +kernel
theorem dX2_odds_41 : decode cX2_odds 41 = .ok (.goto 10, 3) := by decide +kernel
theorem dX2_odds_44 : decode cX2_odds 44 = .ok (.aload_n 0, 1) := by decide +kernel
theorem dX2_odds_45 : decode cX2_odds 45 = .ok (.iload_n 1, 1) := by decide +kernel
theorem dX2_odds_46 : decode cX2_odds 46 = .ok (.iload_n 2, 1) := by decide +kernel
theorem dX2_odds_47 : decode cX2_odds 47 = .ok (.iload_n 3, 1) := by decide +kernel
theorem dX2_odds_48 : decode cX2_odds 48 = .ok (.invokevirtual 210, 3) := by decide +kernel
theorem dX2_odds_51 : decode cX2_odds 51 = .ok (.ireturn, 1) := by decide +kernel
theorem dX2_mid_0 : decode cX2_mid 0 = .ok (.iload_n 1, 1) := by decide +kernel
theorem dX2_mid_1 : decode cX2_mid 1 = .ok (.iconst 0, 1) := by decide +kernel
theorem dX2_mid_2 : decode cX2_mid 2 = .ok (.bipush 20, 2) := by decide +kernel
theorem dX2_mid_4 : decode cX2_mid 4 = .ok (.invokestatic 82, 3) := by decide +kernel
theorem dX2_mid_7 : decode cX2_mid 7 = .ok (.ifCond .eq 13, 3) := by decide +kernel
theorem dX2_mid_10 : decode cX2_mid 10 = .ok (.iload_n 2, 1) := by decide +kernel
theorem dX2_mid_11 : decode cX2_mid 11 = .ok (.iconst 0, 1) := by decide +kernel
theorem dX2_mid_12 : decode cX2_mid 12 = .ok (.bipush 12, 2) := by decide +kernel
theorem dX2_mid_14 : decode cX2_mid 14 = .ok (.invokestatic 82, 3) := by decide +kernel
theorem dX2_mid_17 : decode cX2_mid 17 = .ok (.ifCond .ne 5, 3) := by decide +kernel
theorem dX2_mid_20 : decode cX2_mid 20 = .ok (.iconst (-1), 1) := by decide +kernel
theorem dX2_mid_21 : decode cX2_mid 21 = .ok (.ireturn, 1) := by decide +kernel
theorem dX2_mid_22 : decode cX2_mid 22 = .ok (.aload_n 0, 1) := by decide +kernel
theorem dX2_mid_23 : decode cX2_mid 23 = .ok (.getfield 79, 3) := by decide +kernel
theorem dX2_mid_26 : decode cX2_mid 26 = .ok (.ifCond .ne 8, 3) := by decide +kernel
theorem dX2_mid_29 : decode cX2_mid 29 = .ok (.bipush (-4), 2) := by decide +kernel
theorem dX2_mid_31 : decode cX2_mid 31 = .ok (.goto 10, 3) := by decide +kernel
theorem dX2_mid_34 : decode cX2_mid 34 = .ok (.aload_n 0, 1) := by decide +kernel
theorem dX2_mid_35 : decode cX2_mid 35 = .ok (.iconst (-1), 1) := by decide +kernel
theorem dX2_mid_36 : decode cX2_mid 36 = .ok (.iload_n 1, 1) := by decide +kernel
theorem dX2_mid_37 : decode cX2_mid 37 = .ok (.iload_n 2, 1) := by decide +kernel
theorem dX2_mid_38 : decode cX2_mid 38 = .ok (.invokevirtual 210, 3) := by decide +kernel
theorem dX2_mid_41 : decode cX2_mid 41 = .ok (.ireturn, 1) := by decide +kernel
theorem dX2_lot_0 : decode cX2_lot 0 = .ok (.iload_n 1, 1) := by decide +kernel
theorem dX2_lot_1 : decode cX2_lot 1 = .ok (.bipush 8, 2) := by decide +kernel
theorem dX2_lot_3 : decode cX2_lot 3 = .ok (.idiv, 1) := by decide +kernel
theorem dX2_lot_4 : decode cX2_lot 4 = .ok (.aload_n 0, 1) := by decide +kernel
theorem dX2_lot_5 : decode cX2_lot 5 = .ok (.getfield 79, 3) := by decide +kernel
theorem dX2_lot_8 : decode cX2_lot 8 = .ok (.irem, 1) := by decide +kernel
theorem dX2_lot_9 : decode cX2_lot 9 = .ok (.istore_n 2, 1) := by decide +kernel
theorem dX2_lot_10 : decode cX2_lot 10 = .ok (.aload_n 0, 1) := by decide +kernel
theorem dX2_lot_11 : decode cX2_lot 11 = .ok (.invokevirtual 155, 3) := by decide +kernel
theorem dX2_lot_14 : decode cX2_lot 14 = .ok (.iload_n 1, 1) := by decide +kernel
theorem dX2_lot_15 : decode cX2_lot 15 = .ok (.bipush 8, 2) := by decide +kernel
theorem dX2_lot_17 : decode cX2_lot 17 = .ok (.irem, 1) := by decide +kernel
theorem dX2_lot_18 : decode cX2_lot 18 = .ok (.ifCond .ne 22, 3) := by decide +kernel
theorem dX2_lot_21 : decode cX2_lot 21 = .ok (.aload_n 0, 1) := by decide +kernel
theorem dX2_lot_22 : decode cX2_lot 22 = .ok (.getfield 31, 3) := by decide +kernel
theorem dX2_lot_25 : decode cX2_lot 25 = .ok (.iload_n 2, 1) := by decide +kernel
theorem dX2_lot_26 : decode cX2_lot 26 = .ok (.iload_n 2, 1) := by decide +kernel
theorem dX2_lot_27 : decode cX2_lot 27 = .ok (.iconst 1, 1) := by decide +kernel
theorem dX2_lot_28 : decode cX2_lot 28 = .ok (.iadd, 1) := by decide +kernel
theorem dX2_lot_29 : decode cX2_lot 29 = .ok (.aload_n 0, 1) := by decide +kernel
theorem dX2_lot_30 : decode cX2_lot 30 = .ok (.getfield 79, 3) := by decide +kernel
theorem dX2_lot_33 : decode cX2_lot 33 = .ok (.irem, 1) := by decide +kernel
theorem dX2_lot_34 : decode cX2_lot 34 = .ok (.invokestatic 166, 3) := by decide +kernel
theorem dX2_lot_37 : decode cX2_lot 37 = .ok (.goto 57, 3) := by decide +kernel
theorem dX2_lot_40 : decode cX2_lot 40 = .ok (.iload_n 1, 1) := by decide +kernel
theorem dX2_lot_41 : decode cX2_lot 41 = .ok (.bipush 8, 2) := by decide +kernel
theorem dX2_lot_43 : decode cX2_lot 43 = .ok (.irem, 1) := by decide +kernel
theorem dX2_lot_44 : decode cX2_lot 44 = .ok (.iconst 4, 1) := by decide +kernel
theorem dX2_lot_45 : decode cX2_lot 45 = .ok (.if_icmp .ge 30, 3) := by decide +kernel
theorem dX2_lot_48 : decode cX2_lot 48 = .ok (.aload_n 0, 1) := by decide +kernel
theorem dX2_lot_49 : decode cX2_lot 49 = .ok (.getfield 31, 3) := by decide +kernel
theorem dX2_lot_52 : decode cX2_lot 52 = .ok (.iconst 1, 1) := by decide +kernel
theorem dX2_lot_53 : decode cX2_lot 53 = .ok (.iload_n 2, 1) := by decide +kernel
theorem dX2_lot_54 : decode cX2_lot 54 = .ok (.iadd, 1) := by decide +kernel
theorem dX2_lot_55 : decode cX2_lot 55 = .ok (.dup2, 1) := by decide +kernel
theorem dX2_lot_56 : decode cX2_lot 56 = .ok (.iaload, 1) := by decide +kernel
theorem dX2_lot_57 : decode cX2_lot 57 = .ok (.iconst 1, 1) := by decide +kernel
theorem dX2_lot_58 : decode cX2_lot 58 = .ok (.iload_n 1, 1) := by decide +kernel
theorem dX2_lot_59 : decode cX2_lot 59 = .ok (.bipush 64, 2) := by decide +kernel
theorem dX2_lot_61 : decode cX2_lot 61 = .ok (.idiv, 1) := by decide +kernel
theorem dX2_lot_62 : decode cX2_lot 62 = .ok (.aload_n 0, 1) := by decide +kernel
theorem dX2_lot_63 : decode cX2_lot 63 = .ok (.getfield 25, 3) := by decide +kernel
theorem dX2_lot_66 : decode cX2_lot 66 = .ok (.iload_n 2, 1) := by decide +kernel
theorem dX2_lot_67 : decode cX2_lot 67 = .ok (.iaload, 1) := by decide +kernel
theorem dX2_lot_68 : decode cX2_lot 68 = .ok (.irem, 1) := by decide +kernel
theorem dX2_lot_69 : decode cX2_lot 69 = .ok (.ishl, 1) := by decide +kernel
theorem dX2_lot_70 : decode cX2_lot 70 = .ok (.ixor, 1) := by decide +kernel
theorem dX2_lot_71 : decode cX2_lot 71 = .ok (.iastore, 1) := by decide +kernel
theorem dX2_lot_72 : decode cX2_lot 72 = .ok (.goto 22, 3) := by decide +kernel
theorem dX2_lot_75 : decode cX2_lot 75 = .ok (.aload_n 0, 1) := by decide +kernel
theorem dX2_lot_76 : decode cX2_lot 76 = .ok (.getfield 31, 3) := by decide +kernel
theorem dX2_lot_79 : decode cX2_lot 79 = .ok (.iconst 0, 1) := by decide +kernel
theorem dX2_lot_80 : decode cX2_lot 80 = .ok (.iaload, 1) := by decide +kernel
theorem dX2_lot_81 : decode cX2_lot 81 = .ok (.bipush 99, 2) := by decide +kernel
theorem dX2_lot_83 : decode cX2_lot 83 = .ok (.if_icmp .ge 11, 3) := by decide +kernel
theorem dX2_lot_86 : decode cX2_lot 86 = .ok (.aload_n 0, 1) := by decide +kernel
theorem dX2_lot_87 : decode cX2_lot 87 = .ok (.aload_n 0, 1) := by decide +kernel
theorem dX2_lot_88 : decode cX2_lot 88 = .ok (.getfield 31, 3) := by decide +kernel
theorem dX2_lot_91 : decode cX2_lot 91 = .ok (.invokevirtual 158, 3) := by decide +kernel
theorem dX2_lot_94 : decode cX2_lot 94 = .ok (.return_, 1) := by decide +kernel
theorem dX2_lots_0 : decode cX2_lots 0 = .ok (.iload_n 1, 1) := by decide +kernel
theorem dX2_lots_1 : decode cX2_lots 1 = .ok (.iconst 1, 1) := by decide +kernel
theorem dX2_lots_2 : decode cX2_lots 2 = .ok (.bipush 20, 2) := by decide +kernel
theorem dX2_lots_4 : decode cX2_lots 4 = .ok (.invokestatic 82, 3) := by decide +kernel
theorem dX2_lots_7 : decode cX2_lots 7 = .ok (.ifCond .eq 13, 3) := by decide +kernel
theorem dX2_lots_10 : decode cX2_lots 10 = .ok (.iload_n 2, 1) := by decide +kernel
theorem dX2_lots_11 : decode cX2_lots 11 = .ok (.iconst 1, 1) := by decide +kernel
theorem dX2_lots_12 : decode cX2_lots 12 = .ok (.ldc 213, 2) := by decide +kernel
theorem dX2_lots_14 : decode cX2_lots 14 = .ok (.invokestatic 82, 3) := by decide +kernel
theorem dX2_lots_17 : decode cX2_lots 17 = .ok (.ifCond .ne 5, 3) := by decide +kernel
theorem dX2_lots_20 : decode cX2_lots 20 = .ok (.iconst (-1), 1) := by decide +kernel
theorem dX2_lots_21 : decode cX2_lots 21 = .ok (.ireturn, 1) := by decide +kernel
theorem dX2_lots_22 : decode cX2_lots 22 = .ok (.aload_n 0, 1) := by decide +kernel
theorem dX2_lots_23 : decode cX2_lots 23 = .ok (.getfield 79, 3) := by decide +kernel
theorem dX2_lots_26 : decode cX2_lots 26 = .ok (.ifCond .ne 6, 3) := by decide +kernel
theorem dX2_lots_29 : decode cX2_lots 29 = .ok (.bipush (-4), 2) := by decide +kernel
theorem dX2_lots_31 : decode cX2_lots 31 = .ok (.ireturn, 1) := by decide +kernel
theorem dX2_lots_32 : decode cX2_lots 32 = .ok (.aload_n 0, 1) := by decide +kernel
theorem dX2_lots_33 : decode cX2_lots 33 = .ok (.getfield 121, 3) := by decide +kernel
theorem dX2_lots_36 : decode cX2_lots 36 = .ok (.iload_n 1, 1) := by decide +kernel
theorem dX2_lots_37 : decode cX2_lots 37 = .ok (.iadd, 1) := by decide +kernel
theorem dX2_lots_38 : decode cX2_lots 38 = .ok (.bipush 40, 2) := by decide +kernel
theorem dX2_lots_40 : decode cX2_lots 40 = .ok (.if_icmp .le 6, 3) := by decide +kernel
theorem dX2_lots_43 : decode cX2_lots 43 = .ok (.bipush (-2), 2) := by decide +kernel
theorem dX2_lots_45 : decode cX2_lots 45 = .ok (.ireturn, 1) := by decide +kernel
theorem dX2_lots_46 : decode cX2_lots 46 = .ok (.iload_n 2, 1) := by decide +kernel
theorem dX2_lots_47 : decode cX2_lots 47 = .ok (.i2l, 1) := by decide +kernel
theorem dX2_lots_48 : decode cX2_lots 48 = .ok (.lstore_n 3, 1) := by decide +kernel
theorem dX2_lots_49 : decode cX2_lots 49 = .ok (.iconst 0, 1) := by decide +kernel
theorem dX2_lots_50 : decode cX2_lots 50 = .ok (.istore 5, 2) := by decide +kernel
theorem dX2_lots_52 : decode cX2_lots 52 = .ok (.iload 5, 2) := by decide +kernel
theorem dX2_lots_54 : decode cX2_lots 54 = .ok (.iload_n 1, 1) := by decide +kernel
theorem dX2_lots_55 : decode cX2_lots 55 = .ok (.if_icmp .ge 25, 3) := by decide +kernel
theorem dX2_lots_58 : decode cX2_lots 58 = .ok (.lload_n 3, 1) := by decide +kernel
theorem dX2_lots_59 : decode cX2_lots 59 = .ok (.ldc2_w 214, 3) := by decide +kernel
theorem dX2_lots_62 : decode cX2_lots 62 = .ok (.lmul, 1) := by decide +kernel
theorem dX2_lots_63 : decode cX2_lots 63 = .ok (.ldc2_w 216, 3) := by decide +kernel
theorem dX2_lots_66 : decode cX2_lots 66 = .ok (.lrem, 1) := by decide +kernel
theorem dX2_lots_67 : decode cX2_lots 67 = .ok (.lstore_n 3, 1) := by decide +kernel
theorem dX2_lots_68 : decode cX2_lots 68 = .ok (.aload_n 0, 1) := by decide +kernel
theorem dX2_lots_69 : decode cX2_lots 69 = .ok (.lload_n 3, 1) := by decide +kernel
theorem dX2_lots_70 : decode cX2_lots 70 = .ok (.l2i, 1) := by decide +kernel
theorem dX2_lots_71 : decode cX2_lots 71 = .ok (.invokevirtual 218, 3) := by decide +kernel
theorem dX2_lots_74 : decode cX2_lots 74 = .ok (.iinc 5 1, 3) := by decide +kernel
theorem dX2_lots_77 : decode cX2_lots 77 = .ok (.goto (-25), 3) := by decide +kernel
theorem dX2_lots_80 : decode cX2_lots 80 = .ok (.aload_n 0, 1) := by decide +kernel
theorem dX2_lots_81 : decode cX2_lots 81 = .ok (.aload_n 0, 1) := by decide +kernel
theorem dX2_lots_82 : decode cX2_lots 82 = .ok (.getfield 31, 3) := by decide +kernel
theorem dX2_lots_85 : decode cX2_lots 85 = .ok (.invokevirtual 162, 3) := by decide +kernel
theorem dX2_lots_88 : decode cX2_lots 88 = .ok (.ireturn, 1) := by decide +kernel
theorem dX2_asked_0 : decode cX2_asked 0 = .ok (.aload_n 0, 1) := by decide +kernel
theorem dX2_asked_1 : decode cX2_asked 1 = .ok (.getfield 76, 3) := by decide +kernel
theorem dX2_asked_4 : decode cX2_asked 4 = .ok (.ireturn, 1) := by decide +kernel
theorem dX2_upper_0 : decode cX2_upper 0 = .ok (.aload_n 0, 1) := by decide +kernel
theorem dX2_upper_1 : decode cX2_upper 1 = .ok (.getfield 203, 3) := by decide +kernel
theorem dX2_upper_4 : decode cX2_upper 4 = .ok (.lreturn, 1) := by decide +kernel
theorem dX2_lower_0 : decode cX2_lower 0 = .ok (.aload_n 0, 1) := by decide +kernel
theorem dX2_lower_1 : decode cX2_lower 1 = .ok (.getfield 47, 3) := by decide +kernel
theorem dX2_lower_4 : decode cX2_lower 4 = .ok (.lreturn, 1) := by decide +kernel
theorem dX2_slots_0 : decode cX2_slots 0 = .ok (.iconst 0, 1) := by decide +kernel
theorem dX2_slots_1 : decode cX2_slots 1 = .ok (.istore_n 1, 1) := by decide +kernel
theorem dX2_slots_2 : decode cX2_slots 2 = .ok (.iconst 0, 1) := by decide +kernel
theorem dX2_slots_3 : decode cX2_slots 3 = .ok (.istore_n 2, 1) := by decide +kernel
theorem dX2_slots_4 : decode cX2_slots 4 = .ok (.iload_n 2, 1) := by decide +kernel
theorem dX2_slots_5 : decode cX2_slots 5 = .ok (.aload_n 0, 1) := by decide +kernel
theorem dX2_slots_6 : decode cX2_slots 6 = .ok (.getfield 79, 3) := by decide +kernel
theorem dX2_slots_9 : decode cX2_slots 9 = .ok (.if_icmp .ge 18, 3) := by decide +kernel
theorem dX2_slots_12 : decode cX2_slots 12 = .ok (.iload_n 1, 1) := by decide +kernel
theorem dX2_slots_13 : decode cX2_slots 13 = .ok (.aload_n 0, 1) := by decide +kernel
theorem dX2_slots_14 : decode cX2_slots 14 = .ok (.getfield 25, 3) := by decide +kernel
theorem dX2_slots_17 : decode cX2_slots 17 = .ok (.iload_n 2, 1) := by decide +kernel
theorem dX2_slots_18 : decode cX2_slots 18 = .ok (.iaload, 1) := by decide +kernel
theorem dX2_slots_19 : decode cX2_slots 19 = .ok (.iadd, 1) := by decide +kernel
theorem dX2_slots_20 : decode cX2_slots 20 = .ok (.istore_n 1, 1) := by decide +kernel
theorem dX2_slots_21 : decode cX2_slots 21 = .ok (.iinc 2 1, 3) := by decide +kernel
theorem dX2_slots_24 : decode cX2_slots 24 = .ok (.goto (-20), 3) := by decide +kernel
theorem dX2_slots_27 : decode cX2_slots 27 = .ok (.iload_n 1, 1) := by decide +kernel
theorem dX2_slots_28 : decode cX2_slots 28 = .ok (.ireturn, 1) := by decide +kernel
theorem dX2_empties_0 : decode cX2_empties 0 = .ok (.iconst 0, 1) := by decide +kernel
theorem dX2_empties_1 : decode cX2_empties 1 = .ok (.istore_n 1, 1) := by decide +kernel
theorem dX2_empties_2 : decode cX2_empties 2 = .ok (.iconst 0, 1) := by decide +kernel
theorem dX2_empties_3 : decode cX2_empties 3 = .ok (.istore_n 2, 1) := by decide +kernel
theorem dX2_empties_4 : decode cX2_empties 4 = .ok (.iload_n 2, 1) := by decide +kernel
theorem dX2_empties_5 : decode cX2_empties 5 = .ok (.aload_n 0, 1) := by decide +kernel
theorem dX2_empties_6 : decode cX2_empties 6 = .ok (.getfield 79, 3) := by decide +kernel
theorem dX2_empties_9 : decode cX2_empties 9 = .ok (.if_icmp .ge 30, 3) := by decide +kernel
theorem dX2_empties_12 : decode cX2_empties 12 = .ok (.iload_n 1, 1) := by decide +kernel
theorem dX2_empties_13 : decode cX2_empties 13 = .ok (.aload_n 0, 1) := by decide +kernel
theorem dX2_empties_14 : decode cX2_empties 14 = .ok (.getfield 31, 3) := by decide +kernel
theorem dX2_empties_17 : decode cX2_empties 17 = .ok (.iconst 1, 1) := by decide +kernel
theorem dX2_empties_18 : decode cX2_empties 18 = .ok (.iload_n 2, 1) := by decide +kernel
theorem dX2_empties_19 : decode cX2_empties 19 = .ok (.iadd, 1) := by decide +kernel
theorem dX2_empties_20 : decode cX2_empties 20 = .ok (.iaload, 1) := by decide +kernel
theorem dX2_empties_21 : decode cX2_empties 21 = .ok (.ifCond .ne 9, 3) := by decide +kernel
theorem dX2_empties_24 : decode cX2_empties 24 = .ok (.iconst 1, 1) := by decide +kernel
theorem dX2_empties_25 : decode cX2_empties 25 = .ok (.iload_n 2, 1) := by decide +kernel
theorem dX2_empties_26 : decode cX2_empties 26 = .ok (.ishl, 1) := by decide +kernel
theorem dX2_empties_27 : decode cX2_empties 27 = .ok (.goto 4, 3) := by decide +kernel
theorem dX2_empties_30 : decode cX2_empties 30 = .ok (.iconst 0, 1) := by decide +kernel
theorem dX2_empties_31 : decode cX2_empties 31 = .ok (.ior, 1) := by decide +kernel
theorem dX2_empties_32 : decode cX2_empties 32 = .ok (.istore_n 1, 1) := by decide +kernel
theorem dX2_empties_33 : decode cX2_empties 33 = .ok (.iinc 2 1, 3) := by decide +kernel
theorem dX2_empties_36 : decode cX2_empties 36 = .ok (.goto (-32), 3) := by decide +kernel
theorem dX2_empties_39 : decode cX2_empties 39 = .ok (.iload_n 1, 1) := by decide +kernel
theorem dX2_empties_40 : decode cX2_empties 40 = .ok (.ireturn, 1) := by decide +kernel
theorem dX2_there_0 : decode cX2_there 0 = .ok (.iconst 0, 1) := by decide +kernel
theorem dX2_there_1 : decode cX2_there 1 = .ok (.istore_n 1, 1) := by decide +kernel
theorem dX2_there_2 : decode cX2_there 2 = .ok (.iconst 0, 1) := by decide +kernel
theorem dX2_there_3 : decode cX2_there 3 = .ok (.istore_n 2, 1) := by decide +kernel
theorem dX2_there_4 : decode cX2_there 4 = .ok (.iload_n 2, 1) := by decide +kernel
theorem dX2_there_5 : decode cX2_there 5 = .ok (.aload_n 0, 1) := by decide +kernel
theorem dX2_there_6 : decode cX2_there 6 = .ok (.arraylength, 1) := by decide +kernel
theorem dX2_there_7 : decode cX2_there 7 = .ok (.if_icmp .ge 23, 3) := by decide +kernel
theorem dX2_there_10 : decode cX2_there 10 = .ok (.iload_n 1, 1) := by decide +kernel
theorem dX2_there_11 : decode cX2_there 11 = .ok (.aload_n 0, 1) := by decide +kernel
theorem dX2_there_12 : decode cX2_there 12 = .ok (.iload_n 2, 1) := by decide +kernel
theorem dX2_there_13 : decode cX2_there 13 = .ok (.iaload, 1) := by decide +kernel
theorem dX2_there_14 : decode cX2_there 14 = .ok (.ifCond .ge 7, 3) := by decide +kernel
theorem dX2_there_17 : decode cX2_there 17 = .ok (.iconst 0, 1) := by decide +kernel
theorem dX2_there_18 : decode cX2_there 18 = .ok (.goto 4, 3) := by decide +kernel
theorem dX2_there_21 : decode cX2_there 21 = .ok (.iconst 1, 1) := by decide +kernel
theorem dX2_there_22 : decode cX2_there 22 = .ok (.iadd, 1) := by decide +kernel
theorem dX2_there_23 : decode cX2_there 23 = .ok (.istore_n 1, 1) := by decide +kernel
theorem dX2_there_24 : decode cX2_there 24 = .ok (.iinc 2 1, 3) := by decide +kernel
theorem dX2_there_27 : decode cX2_there 27 = .ok (.goto (-23), 3) := by decide +kernel
theorem dX2_there_30 : decode cX2_there 30 = .ok (.iload_n 1, 1) := by decide +kernel
theorem dX2_there_31 : decode cX2_there 31 = .ok (.ireturn, 1) := by decide +kernel
theorem dX2_keptMany_0 : decode cX2_keptMany 0 = .ok (.iconst 0, 1) := by decide +kernel
theorem dX2_keptMany_1 : decode cX2_keptMany 1 = .ok (.istore_n 1, 1) := by decide +kernel
theorem dX2_keptMany_2 : decode cX2_keptMany 2 = .ok (.iconst 0, 1) := by decide +kernel
theorem dX2_keptMany_3 : decode cX2_keptMany 3 = .ok (.istore_n 2, 1) := by decide +kernel
theorem dX2_keptMany_4 : decode cX2_keptMany 4 = .ok (.iload_n 2, 1) := by decide +kernel
theorem dX2_keptMany_5 : decode cX2_keptMany 5 = .ok (.iconst 3, 1) := by decide +kernel
theorem dX2_keptMany_6 : decode cX2_keptMany 6 = .ok (.if_icmp .ge 26, 3) := by decide +kernel
theorem dX2_keptMany_9 : decode cX2_keptMany 9 = .ok (.iload_n 1, 1) := by decide +kernel
theorem dX2_keptMany_10 : decode cX2_keptMany 10 = .ok (.aload_n 0, 1) := by decide +kernel
theorem dX2_keptMany_11 : decode cX2_keptMany 11 = .ok (.getfield 43, 3) := by decide +kernel
theorem dX2_keptMany_14 : decode cX2_keptMany 14 = .ok (.iload_n 2, 1) := by decide +kernel
theorem dX2_keptMany_15 : decode cX2_keptMany 15 = .ok (.baload, 1) := by decide +kernel
theorem dX2_keptMany_16 : decode cX2_keptMany 16 = .ok (.ifCond .eq 7, 3) := by decide +kernel
theorem dX2_keptMany_19 : decode cX2_keptMany 19 = .ok (.iconst 1, 1) := by decide +kernel
theorem dX2_keptMany_20 : decode cX2_keptMany 20 = .ok (.goto 4, 3) := by decide +kernel
theorem dX2_keptMany_23 : decode cX2_keptMany 23 = .ok (.iconst 0, 1) := by decide +kernel
theorem dX2_keptMany_24 : decode cX2_keptMany 24 = .ok (.iadd, 1) := by decide +kernel
theorem dX2_keptMany_25 : decode cX2_keptMany 25 = .ok (.istore_n 1, 1) := by decide +kernel
theorem dX2_keptMany_26 : decode cX2_keptMany 26 = .ok (.iinc 2 1, 3) := by decide +kernel
theorem dX2_keptMany_29 : decode cX2_keptMany 29 = .ok (.goto (-25), 3) := by decide +kernel
theorem dX2_keptMany_32 : decode cX2_keptMany 32 = .ok (.iload_n 1, 1) := by decide +kernel
theorem dX2_keptMany_33 : decode cX2_keptMany 33 = .ok (.ireturn, 1) := by decide +kernel
theorem dX2_those_0 : decode cX2_those 0 = .ok (.iconst 0, 1) := by decide +kernel
theorem dX2_those_1 : decode cX2_those 1 = .ok (.istore_n 2, 1) := by decide +kernel
theorem dX2_those_2 : decode cX2_those 2 = .ok (.iconst 0, 1) := by decide +kernel
theorem dX2_those_3 : decode cX2_those 3 = .ok (.istore_n 3, 1) := by decide +kernel
theorem dX2_those_4 : decode cX2_those 4 = .ok (.iload_n 3, 1) := by decide +kernel
theorem dX2_those_5 : decode cX2_those 5 = .ok (.aload_n 0, 1) := by decide +kernel
theorem dX2_those_6 : decode cX2_those 6 = .ok (.getfield 79, 3) := by decide +kernel
theorem dX2_those_9 : decode cX2_those 9 = .ok (.if_icmp .ge 26, 3) := by decide +kernel
theorem dX2_those_12 : decode cX2_those 12 = .ok (.iload_n 2, 1) := by decide +kernel
theorem dX2_those_13 : decode cX2_those 13 = .ok (.aload_n 0, 1) := by decide +kernel
theorem dX2_those_14 : decode cX2_those 14 = .ok (.iload_n 3, 1) := by decide +kernel
theorem dX2_those_15 : decode cX2_those 15 = .ok (.iload_n 1, 1) := by decide +kernel
theorem dX2_those_16 : decode cX2_those 16 = .ok (.invokevirtual 151, 3) := by decide +kernel
theorem dX2_those_19 : decode cX2_those 19 = .ok (.ifCond .eq 7, 3) := by decide +kernel
theorem dX2_those_22 : decode cX2_those 22 = .ok (.iconst 1, 1) := by decide +kernel
theorem dX2_those_23 : decode cX2_those 23 = .ok (.goto 4, 3) := by decide +kernel
theorem dX2_those_26 : decode cX2_those 26 = .ok (.iconst 0, 1) := by decide +kernel
theorem dX2_those_27 : decode cX2_those 27 = .ok (.iadd, 1) := by decide +kernel
theorem dX2_those_28 : decode cX2_those 28 = .ok (.istore_n 2, 1) := by decide +kernel
theorem dX2_those_29 : decode cX2_those 29 = .ok (.iinc 3 1, 3) := by decide +kernel
theorem dX2_those_32 : decode cX2_those 32 = .ok (.goto (-28), 3) := by decide +kernel
theorem dX2_those_35 : decode cX2_those 35 = .ok (.iload_n 2, 1) := by decide +kernel
theorem dX2_those_36 : decode cX2_those 36 = .ok (.ireturn, 1) := by decide +kernel
theorem dX2_count_0 : decode cX2_count 0 = .ok (.iload_n 1, 1) := by decide +kernel
theorem dX2_count_1 : decode cX2_count 1 = .ok (.tableswitch 128 0 10 #[59, 64, 71, 76, 85, 90, 95, 103, 111, 116, 122], 59) := by decide +kernel
theorem dX2_count_60 : decode cX2_count 60 = .ok (.aload_n 0, 1) := by decide +kernel
theorem dX2_count_61 : decode cX2_count 61 = .ok (.getfield 79, 3) := by decide +kernel
theorem dX2_count_64 : decode cX2_count 64 = .ok (.ireturn, 1) := by decide +kernel
theorem dX2_count_65 : decode cX2_count 65 = .ok (.aload_n 0, 1) := by decide +kernel
theorem dX2_count_66 : decode cX2_count 66 = .ok (.getfield 31, 3) := by decide +kernel
theorem dX2_count_69 : decode cX2_count 69 = .ok (.iconst 0, 1) := by decide +kernel
theorem dX2_count_70 : decode cX2_count 70 = .ok (.iaload, 1) := by decide +kernel
theorem dX2_count_71 : decode cX2_count 71 = .ok (.ireturn, 1) := by decide +kernel
theorem dX2_count_72 : decode cX2_count 72 = .ok (.aload_n 0, 1) := by decide +kernel
theorem dX2_count_73 : decode cX2_count 73 = .ok (.getfield 121, 3) := by decide +kernel
theorem dX2_count_76 : decode cX2_count 76 = .ok (.ireturn, 1) := by decide +kernel
theorem dX2_count_77 : decode cX2_count 77 = .ok (.aload_n 0, 1) := by decide +kernel
theorem dX2_count_78 : decode cX2_count 78 = .ok (.aload_n 0, 1) := by decide +kernel
theorem dX2_count_79 : decode cX2_count 79 = .ok (.getfield 31, 3) := by decide +kernel
theorem dX2_count_82 : decode cX2_count 82 = .ok (.invokevirtual 162, 3) := by decide +kernel
theorem dX2_count_85 : decode cX2_count 85 = .ok (.ireturn, 1) := by decide +kernel
theorem dX2_count_86 : decode cX2_count 86 = .ok (.aload_n 0, 1) := by decide +kernel
theorem dX2_count_87 : decode cX2_count 87 = .ok (.invokevirtual 221, 3) := by decide +kernel
theorem dX2_count_90 : decode cX2_count 90 = .ok (.ireturn, 1) := by decide +kernel
theorem dX2_count_91 : decode cX2_count 91 = .ok (.aload_n 0, 1) := by decide +kernel
theorem dX2_count_92 : decode cX2_count 92 = .ok (.invokevirtual 225, 3) := by decide +kernel
theorem dX2_count_95 : decode cX2_count 95 = .ok (.ireturn, 1) := by decide +kernel
theorem dX2_count_96 : decode cX2_count 96 = .ok (.aload_n 0, 1) := by decide +kernel
theorem dX2_count_97 : decode cX2_count 97 = .ok (.getfield 7, 3) := by decide +kernel
theorem dX2_count_100 : decode cX2_count 100 = .ok (.invokestatic 228, 3) := by decide +kernel
theorem dX2_count_103 : decode cX2_count 103 = .ok (.ireturn, 1) := by decide +kernel
theorem dX2_count_104 : decode cX2_count 104 = .ok (.aload_n 0, 1) := by decide +kernel
theorem dX2_count_105 : decode cX2_count 105 = .ok (.getfield 16, 3) := by decide +kernel
theorem dX2_count_108 : decode cX2_count 108 = .ok (.invokestatic 228, 3) := by decide +kernel
theorem dX2_count_111 : decode cX2_count 111 = .ok (.ireturn, 1) := by decide +kernel
theorem dX2_count_112 : decode cX2_count 112 = .ok (.aload_n 0, 1) := by decide +kernel
theorem dX2_count_113 : decode cX2_count 113 = .ok (.invokevirtual 231, 3) := by decide +kernel
theorem dX2_count_116 : decode cX2_count 116 = .ok (.ireturn, 1) := by decide +kernel
theorem dX2_count_117 : decode cX2_count 117 = .ok (.aload_n 0, 1) := by decide +kernel
theorem dX2_count_118 : decode cX2_count 118 = .ok (.iconst 1, 1) := by decide +kernel
theorem dX2_count_119 : decode cX2_count 119 = .ok (.invokevirtual 234, 3) := by decide +kernel
theorem dX2_count_122 : decode cX2_count 122 = .ok (.ireturn, 1) := by decide +kernel
theorem dX2_count_123 : decode cX2_count 123 = .ok (.aload_n 0, 1) := by decide +kernel
theorem dX2_count_124 : decode cX2_count 124 = .ok (.iconst 2, 1) := by decide +kernel
theorem dX2_count_125 : decode cX2_count 125 = .ok (.invokevirtual 234, 3) := by decide +kernel
theorem dX2_count_128 : decode cX2_count 128 = .ok (.ireturn, 1) := by decide +kernel
theorem dX2_count_129 : decode cX2_count 129 = .ok (.iconst (-1), 1) := by decide +kernel
theorem dX2_count_130 : decode cX2_count 130 = .ok (.ireturn, 1) := by decide +kernel
theorem dX2_finding_0 : decode cX2_finding 0 = .ok (.aload_n 0, 1) := by decide +kernel
theorem dX2_finding_1 : decode cX2_finding 1 = .ok (.getfield 72, 3) := by decide +kernel
theorem dX2_finding_4 : decode cX2_finding 4 = .ok (.ireturn, 1) := by decide +kernel
theorem dX2_findings_0 : decode cX2_findings 0 = .ok (.iload_n 1, 1) := by decide +kernel
theorem dX2_findings_1 : decode cX2_findings 1 = .ok (.iconst 1, 1) := by decide +kernel
theorem dX2_findings_2 : decode cX2_findings 2 = .ok (.iconst 5, 1) := by decide +kernel
theorem dX2_findings_3 : decode cX2_findings 3 = .ok (.invokestatic 82, 3) := by decide +kernel
theorem dX2_findings_6 : decode cX2_findings 6 = .ok (.ifCond .eq 12, 3) := by decide +kernel
theorem dX2_findings_9 : decode cX2_findings 9 = .ok (.aload_n 0, 1) := by decide +kernel
theorem dX2_findings_10 : decode cX2_findings 10 = .ok (.getfield 51, 3) := by decide +kernel
theorem dX2_findings_13 : decode cX2_findings 13 = .ok (.iload_n 1, 1) := by decide +kernel
theorem dX2_findings_14 : decode cX2_findings 14 = .ok (.iaload, 1) := by decide +kernel
theorem dX2_findings_15 : decode cX2_findings 15 = .ok (.goto 4, 3) := by decide +kernel
theorem dX2_findings_18 : decode cX2_findings 18 = .ok (.iconst (-1), 1) := by decide +kernel
theorem dX2_findings_19 : decode cX2_findings 19 = .ok (.ireturn, 1) := by decide +kernel
theorem dX2_tubeOf_0 : decode cX2_tubeOf 0 = .ok (.aload_n 0, 1) := by decide +kernel
theorem dX2_tubeOf_1 : decode cX2_tubeOf 1 = .ok (.getfield 76, 3) := by decide +kernel
theorem dX2_tubeOf_4 : decode cX2_tubeOf 4 = .ok (.istore_n 3, 1) := by decide +kernel
theorem dX2_tubeOf_5 : decode cX2_tubeOf 5 = .ok (.aload_n 0, 1) := by decide +kernel
theorem dX2_tubeOf_6 : decode cX2_tubeOf 6 = .ok (.iload_n 1, 1) := by decide +kernel
theorem dX2_tubeOf_7 : decode cX2_tubeOf 7 = .ok (.iload_n 2, 1) := by decide +kernel
theorem dX2_tubeOf_8 : decode cX2_tubeOf 8 = .ok (.invokevirtual 237, 3) := by decide +kernel
theorem dX2_tubeOf_11 : decode cX2_tubeOf 11 = .ok (.pop, 1) := by decide +kernel
theorem dX2_tubeOf_12 : decode cX2_tubeOf 12 = .ok (.aload_n 0, 1) := by decide +kernel
theorem dX2_tubeOf_13 : decode cX2_tubeOf 13 = .ok (.getfield 76, 3) := by decide +kernel
theorem dX2_tubeOf_16 : decode cX2_tubeOf 16 = .ok (.istore 4, 2) := by decide +kernel
theorem dX2_tubeOf_18 : decode cX2_tubeOf 18 = .ok (.aload_n 0, 1) := by decide +kernel
theorem dX2_tubeOf_19 : decode cX2_tubeOf 19 = .ok (.iload_n 3, 1) := by decide +kernel
theorem dX2_tubeOf_20 : decode cX2_tubeOf 20 = .ok (.putfield 76, 3) := by decide +kernel
theorem dX2_tubeOf_23 : decode cX2_tubeOf 23 = .ok (.iload 4, 2) := by decide +kernel
theorem dX2_tubeOf_25 : decode cX2_tubeOf 25 = .ok (.ireturn, 1) := by decide +kernel
theorem dX2_digest_0 : decode cX2_digest 0 = .ok (.ldc2_w 240, 3) := by decide +kernel
theorem dX2_digest_3 : decode cX2_digest 3 = .ok (.lstore_n 1, 1) := by decide +kernel
theorem dX2_digest_4 : decode cX2_digest 4 = .ok (.iconst 0, 1) := by decide +kernel
theorem dX2_digest_5 : decode cX2_digest 5 = .ok (.istore_n 3, 1) := by decide +kernel
theorem dX2_digest_6 : decode cX2_digest 6 = .ok (.iload_n 3, 1) := by decide +kernel
theorem dX2_digest_7 : decode cX2_digest 7 = .ok (.bipush 11, 2) := by decide +kernel
theorem dX2_digest_9 : decode cX2_digest 9 = .ok (.if_icmp .ge 22, 3) := by decide +kernel
theorem dX2_digest_12 : decode cX2_digest 12 = .ok (.ldc2_w 242, 3) := by decide +kernel
theorem dX2_digest_15 : decode cX2_digest 15 = .ok (.lload_n 1, 1) := by decide +kernel
theorem dX2_digest_16 : decode cX2_digest 16 = .ok (.lmul, 1) := by decide +kernel
theorem dX2_digest_17 : decode cX2_digest 17 = .ok (.aload_n 0, 1) := by decide +kernel
theorem dX2_digest_18 : decode cX2_digest 18 = .ok (.iload_n 3, 1) := by decide +kernel
theorem dX2_digest_19 : decode cX2_digest 19 = .ok (.invokevirtual 244, 3) := by decide +kernel
theorem dX2_digest_22 : decode cX2_digest 22 = .ok (.i2l, 1) := by decide +kernel
theorem dX2_digest_23 : decode cX2_digest 23 = .ok (.ladd, 1) := by decide +kernel
theorem dX2_digest_24 : decode cX2_digest 24 = .ok (.lstore_n 1, 1) := by decide +kernel
theorem dX2_digest_25 : decode cX2_digest 25 = .ok (.iinc 3 1, 3) := by decide +kernel
theorem dX2_digest_28 : decode cX2_digest 28 = .ok (.goto (-22), 3) := by decide +kernel
theorem dX2_digest_31 : decode cX2_digest 31 = .ok (.iconst 0, 1) := by decide +kernel
theorem dX2_digest_32 : decode cX2_digest 32 = .ok (.istore_n 3, 1) := by decide +kernel
theorem dX2_digest_33 : decode cX2_digest 33 = .ok (.iload_n 3, 1) := by decide +kernel
theorem dX2_digest_34 : decode cX2_digest 34 = .ok (.aload_n 0, 1) := by decide +kernel
theorem dX2_digest_35 : decode cX2_digest 35 = .ok (.getfield 79, 3) := by decide +kernel
theorem dX2_digest_38 : decode cX2_digest 38 = .ok (.if_icmp .ge 40, 3) := by decide +kernel
theorem dX2_digest_41 : decode cX2_digest 41 = .ok (.iconst 0, 1) := by decide +kernel
theorem dX2_digest_42 : decode cX2_digest 42 = .ok (.istore 4, 2) := by decide +kernel
theorem dX2_digest_44 : decode cX2_digest 44 = .ok (.iload 4, 2) := by decide +kernel
theorem dX2_digest_46 : decode cX2_digest 46 = .ok (.bipush 7, 2) := by decide +kernel
theorem dX2_digest_48 : decode cX2_digest 48 = .ok (.if_icmp .ge 24, 3) := by decide +kernel
theorem dX2_digest_51 : decode cX2_digest 51 = .ok (.ldc2_w 242, 3) := by decide +kernel
theorem dX2_digest_54 : decode cX2_digest 54 = .ok (.lload_n 1, 1) := by decide +kernel
theorem dX2_digest_55 : decode cX2_digest 55 = .ok (.lmul, 1) := by decide +kernel
theorem dX2_digest_56 : decode cX2_digest 56 = .ok (.aload_n 0, 1) := by decide +kernel
theorem dX2_digest_57 : decode cX2_digest 57 = .ok (.iload_n 3, 1) := by decide +kernel
theorem dX2_digest_58 : decode cX2_digest 58 = .ok (.iload 4, 2) := by decide +kernel
theorem dX2_digest_60 : decode cX2_digest 60 = .ok (.invokevirtual 247, 3) := by decide +kernel
theorem dX2_digest_63 : decode cX2_digest 63 = .ok (.i2l, 1) := by decide +kernel
theorem dX2_digest_64 : decode cX2_digest 64 = .ok (.ladd, 1) := by decide +kernel
theorem dX2_digest_65 : decode cX2_digest 65 = .ok (.lstore_n 1, 1) := by decide +kernel
theorem dX2_digest_66 : decode cX2_digest 66 = .ok (.iinc 4 1, 3) := by decide +kernel
theorem dX2_digest_69 : decode cX2_digest 69 = .ok (.goto (-25), 3) := by decide +kernel
theorem dX2_digest_72 : decode cX2_digest 72 = .ok (.iinc 3 1, 3) := by decide +kernel
theorem dX2_digest_75 : decode cX2_digest 75 = .ok (.goto (-42), 3) := by decide +kernel
theorem dX2_digest_78 : decode cX2_digest 78 = .ok (.iconst 0, 1) := by decide +kernel
theorem dX2_digest_79 : decode cX2_digest 79 = .ok (.istore_n 3, 1) := by decide +kernel
theorem dX2_digest_80 : decode cX2_digest 80 = .ok (.iload_n 3, 1) := by decide +kernel
theorem dX2_digest_81 : decode cX2_digest 81 = .ok (.iconst 3, 1) := by decide +kernel
theorem dX2_digest_82 : decode cX2_digest 82 = .ok (.if_icmp .ge 40, 3) := by decide +kernel
theorem dX2_digest_85 : decode cX2_digest 85 = .ok (.ldc2_w 242, 3) := by decide +kernel
theorem dX2_digest_88 : decode cX2_digest 88 = .ok (.lload_n 1, 1) := by decide +kernel
theorem dX2_digest_89 : decode cX2_digest 89 = .ok (.lmul, 1) := by decide +kernel
theorem dX2_digest_90 : decode cX2_digest 90 = .ok (.aload_n 0, 1) := by decide +kernel
theorem dX2_digest_91 : decode cX2_digest 91 = .ok (.getfield 43, 3) := by decide +kernel
theorem dX2_digest_94 : decode cX2_digest 94 = .ok (.iload_n 3, 1) := by decide +kernel
theorem dX2_digest_95 : decode cX2_digest 95 = .ok (.baload, 1) := by decide +kernel
theorem dX2_digest_96 : decode cX2_digest 96 = .ok (.ifCond .eq 16, 3) := by decide +kernel
theorem dX2_digest_99 : decode cX2_digest 99 = .ok (.aload_n 0, 1) := by decide +kernel
theorem dX2_digest_100 : decode cX2_digest 100 = .ok (.getfield 40, 3) := by decide +kernel
theorem dX2_digest_103 : decode cX2_digest 103 = .ok (.sipush 616, 3) := by decide +kernel
theorem dX2_digest_106 : decode cX2_digest 106 = .ok (.iload_n 3, 1) := by decide +kernel
theorem dX2_digest_107 : decode cX2_digest 107 = .ok (.imul, 1) := by decide +kernel
theorem dX2_digest_108 : decode cX2_digest 108 = .ok (.iaload, 1) := by decide +kernel
theorem dX2_digest_109 : decode cX2_digest 109 = .ok (.goto 4, 3) := by decide +kernel
theorem dX2_digest_112 : decode cX2_digest 112 = .ok (.iconst (-1), 1) := by decide +kernel
theorem dX2_digest_113 : decode cX2_digest 113 = .ok (.i2l, 1) := by decide +kernel
theorem dX2_digest_114 : decode cX2_digest 114 = .ok (.ladd, 1) := by decide +kernel
theorem dX2_digest_115 : decode cX2_digest 115 = .ok (.lstore_n 1, 1) := by decide +kernel
theorem dX2_digest_116 : decode cX2_digest 116 = .ok (.iinc 3 1, 3) := by decide +kernel
theorem dX2_digest_119 : decode cX2_digest 119 = .ok (.goto (-39), 3) := by decide +kernel
theorem dX2_digest_122 : decode cX2_digest 122 = .ok (.iconst 0, 1) := by decide +kernel
theorem dX2_digest_123 : decode cX2_digest 123 = .ok (.istore_n 3, 1) := by decide +kernel
theorem dX2_digest_124 : decode cX2_digest 124 = .ok (.iload_n 3, 1) := by decide +kernel
theorem dX2_digest_125 : decode cX2_digest 125 = .ok (.bipush 6, 2) := by decide +kernel
theorem dX2_digest_127 : decode cX2_digest 127 = .ok (.if_icmp .ge 63, 3) := by decide +kernel
theorem dX2_digest_130 : decode cX2_digest 130 = .ok (.ldc2_w 242, 3) := by decide +kernel
theorem dX2_digest_133 : decode cX2_digest 133 = .ok (.lload_n 1, 1) := by decide +kernel
theorem dX2_digest_134 : decode cX2_digest 134 = .ok (.lmul, 1) := by decide +kernel
theorem dX2_digest_135 : decode cX2_digest 135 = .ok (.aload_n 0, 1) := by decide +kernel
theorem dX2_digest_136 : decode cX2_digest 136 = .ok (.getfield 7, 3) := by decide +kernel
theorem dX2_digest_139 : decode cX2_digest 139 = .ok (.iload_n 3, 1) := by decide +kernel
theorem dX2_digest_140 : decode cX2_digest 140 = .ok (.iaload, 1) := by decide +kernel
theorem dX2_digest_141 : decode cX2_digest 141 = .ok (.i2l, 1) := by decide +kernel
theorem dX2_digest_142 : decode cX2_digest 142 = .ok (.ladd, 1) := by decide +kernel
theorem dX2_digest_143 : decode cX2_digest 143 = .ok (.lstore_n 1, 1) := by decide +kernel
theorem dX2_digest_144 : decode cX2_digest 144 = .ok (.iconst 0, 1) := by decide +kernel
theorem dX2_digest_145 : decode cX2_digest 145 = .ok (.istore 4, 2) := by decide +kernel
theorem dX2_digest_147 : decode cX2_digest 147 = .ok (.iload 4, 2) := by decide +kernel
theorem dX2_digest_149 : decode cX2_digest 149 = .ok (.aload_n 0, 1) := by decide +kernel
theorem dX2_digest_150 : decode cX2_digest 150 = .ok (.getfield 7, 3) := by decide +kernel
theorem dX2_digest_153 : decode cX2_digest 153 = .ok (.iload_n 3, 1) := by decide +kernel
theorem dX2_digest_154 : decode cX2_digest 154 = .ok (.iaload, 1) := by decide +kernel
theorem dX2_digest_155 : decode cX2_digest 155 = .ok (.if_icmp .ge 29, 3) := by decide +kernel
theorem dX2_digest_158 : decode cX2_digest 158 = .ok (.ldc2_w 242, 3) := by decide +kernel
theorem dX2_digest_161 : decode cX2_digest 161 = .ok (.lload_n 1, 1) := by decide +kernel
theorem dX2_digest_162 : decode cX2_digest 162 = .ok (.lmul, 1) := by decide +kernel
theorem dX2_digest_163 : decode cX2_digest 163 = .ok (.aload_n 0, 1) := by decide +kernel
theorem dX2_digest_164 : decode cX2_digest 164 = .ok (.getfield 13, 3) := by decide +kernel
theorem dX2_digest_167 : decode cX2_digest 167 = .ok (.bipush 40, 2) := by decide +kernel
theorem dX2_digest_169 : decode cX2_digest 169 = .ok (.iload_n 3, 1) := by decide +kernel
theorem dX2_digest_170 : decode cX2_digest 170 = .ok (.imul, 1) := by decide +kernel
theorem dX2_digest_171 : decode cX2_digest 171 = .ok (.iload 4, 2) := by decide +kernel
theorem dX2_digest_173 : decode cX2_digest 173 = .ok (.iadd, 1) := by decide +kernel
theorem dX2_digest_174 : decode cX2_digest 174 = .ok (.iaload, 1) := by decide +kernel
theorem dX2_digest_175 : decode cX2_digest 175 = .ok (.i2l, 1) := by decide +kernel
theorem dX2_digest_176 : decode cX2_digest 176 = .ok (.ladd, 1) := by decide +kernel
theorem dX2_digest_177 : decode cX2_digest 177 = .ok (.lstore_n 1, 1) := by decide +kernel
theorem dX2_digest_178 : decode cX2_digest 178 = .ok (.iinc 4 1, 3) := by decide +kernel
theorem dX2_digest_181 : decode cX2_digest 181 = .ok (.goto (-34), 3) := by decide +kernel
theorem dX2_digest_184 : decode cX2_digest 184 = .ok (.iinc 3 1, 3) := by decide +kernel
theorem dX2_digest_187 : decode cX2_digest 187 = .ok (.goto (-63), 3) := by decide +kernel
theorem dX2_digest_190 : decode cX2_digest 190 = .ok (.iconst 0, 1) := by decide +kernel
theorem dX2_digest_191 : decode cX2_digest 191 = .ok (.istore_n 3, 1) := by decide +kernel
theorem dX2_digest_192 : decode cX2_digest 192 = .ok (.iload_n 3, 1) := by decide +kernel
theorem dX2_digest_193 : decode cX2_digest 193 = .ok (.iconst 4, 1) := by decide +kernel
theorem dX2_digest_194 : decode cX2_digest 194 = .ok (.if_icmp .ge 63, 3) := by decide +kernel
theorem dX2_digest_197 : decode cX2_digest 197 = .ok (.ldc2_w 242, 3) := by decide +kernel
theorem dX2_digest_200 : decode cX2_digest 200 = .ok (.lload_n 1, 1) := by decide +kernel
theorem dX2_digest_201 : decode cX2_digest 201 = .ok (.lmul, 1) := by decide +kernel
theorem dX2_digest_202 : decode cX2_digest 202 = .ok (.aload_n 0, 1) := by decide +kernel
theorem dX2_digest_203 : decode cX2_digest 203 = .ok (.getfield 16, 3) := by decide +kernel
theorem dX2_digest_206 : decode cX2_digest 206 = .ok (.iload_n 3, 1) := by decide +kernel
theorem dX2_digest_207 : decode cX2_digest 207 = .ok (.iaload, 1) := by decide +kernel
theorem dX2_digest_208 : decode cX2_digest 208 = .ok (.i2l, 1) := by decide +kernel
theorem dX2_digest_209 : decode cX2_digest 209 = .ok (.ladd, 1) := by decide +kernel
theorem dX2_digest_210 : decode cX2_digest 210 = .ok (.lstore_n 1, 1) := by decide +kernel
theorem dX2_digest_211 : decode cX2_digest 211 = .ok (.iconst 0, 1) := by decide +kernel
theorem dX2_digest_212 : decode cX2_digest 212 = .ok (.istore 4, 2) := by decide +kernel
theorem dX2_digest_214 : decode cX2_digest 214 = .ok (.iload 4, 2) := by decide +kernel
theorem dX2_digest_216 : decode cX2_digest 216 = .ok (.aload_n 0, 1) := by decide +kernel
theorem dX2_digest_217 : decode cX2_digest 217 = .ok (.getfield 16, 3) := by decide +kernel
theorem dX2_digest_220 : decode cX2_digest 220 = .ok (.iload_n 3, 1) := by decide +kernel
theorem dX2_digest_221 : decode cX2_digest 221 = .ok (.iaload, 1) := by decide +kernel
theorem dX2_digest_222 : decode cX2_digest 222 = .ok (.if_icmp .ge 29, 3) := by decide +kernel
theorem dX2_digest_225 : decode cX2_digest 225 = .ok (.ldc2_w 242, 3) := by decide +kernel
theorem dX2_digest_228 : decode cX2_digest 228 = .ok (.lload_n 1, 1) := by decide +kernel
theorem dX2_digest_229 : decode cX2_digest 229 = .ok (.lmul, 1) := by decide +kernel
theorem dX2_digest_230 : decode cX2_digest 230 = .ok (.aload_n 0, 1) := by decide +kernel
theorem dX2_digest_231 : decode cX2_digest 231 = .ok (.getfield 19, 3) := by decide +kernel
theorem dX2_digest_234 : decode cX2_digest 234 = .ok (.bipush 60, 2) := by decide +kernel
theorem dX2_digest_236 : decode cX2_digest 236 = .ok (.iload_n 3, 1) := by decide +kernel
theorem dX2_digest_237 : decode cX2_digest 237 = .ok (.imul, 1) := by decide +kernel
theorem dX2_digest_238 : decode cX2_digest 238 = .ok (.iload 4, 2) := by decide +kernel
theorem dX2_digest_240 : decode cX2_digest 240 = .ok (.iadd, 1) := by decide +kernel
theorem dX2_digest_241 : decode cX2_digest 241 = .ok (.iaload, 1) := by decide +kernel
theorem dX2_digest_242 : decode cX2_digest 242 = .ok (.i2l, 1) := by decide +kernel
theorem dX2_digest_243 : decode cX2_digest 243 = .ok (.ladd, 1) := by decide +kernel
theorem dX2_digest_244 : decode cX2_digest 244 = .ok (.lstore_n 1, 1) := by decide +kernel
theorem dX2_digest_245 : decode cX2_digest 245 = .ok (.iinc 4 1, 3) := by decide +kernel
theorem dX2_digest_248 : decode cX2_digest 248 = .ok (.goto (-34), 3) := by decide +kernel
theorem dX2_digest_251 : decode cX2_digest 251 = .ok (.iinc 3 1, 3) := by decide +kernel
theorem dX2_digest_254 : decode cX2_digest 254 = .ok (.goto (-62), 3) := by decide +kernel
theorem dX2_digest_257 : decode cX2_digest 257 = .ok (.lload_n 1, 1) := by decide +kernel
theorem dX2_digest_258 : decode cX2_digest 258 = .ok (.lreturn, 1) := by decide +kernel
end
section
/-! the pure memory: ints and longs by cell and place; a world of numbered cells over it -/
abbrev Mem : Type := (Nat → Nat → Int32) × (Nat → Nat → Int64)
def sA (M : Mem) (k : Nat) (f : Nat → Int32) : Mem := (fun a => if a = k then f else M.1 a, M.2)
def sI (M : Mem) (k i : Nat) (v : Int32) : Mem := sA M k (upd (M.1 k) i v)
def sL (M : Mem) (k i : Nat) (v : Int64) : Mem := (M.1, fun a => if a = k then vp_updL (M.2 k) i v else M.2 a)
abbrev CF : Type := Nat → (Nat → Int32) → (Nat → Int64) → va_E
def WS (N : Nat) (ad : Nat → Nat) (C : CF) (M : Mem) : va_W := (List.range N).map (fun k => (ad k, C k (M.1 k) (M.2 k)))
theorem WS_get {N : Nat} {ad : Nat → Nat} {C : CF} {M : Mem} {k : Nat} (hk : k < N) : (WS N ad C M)[k]? = some (ad k, C k (M.1 k) (M.2 k)) := by
  simp [WS, hk]
theorem WS_set {N : Nat} {ad : Nat → Nat} {C : CF} {M M' : Mem} {k : Nat} {E : va_E} (hk : k < N) (h1 : C k (M'.1 k) (M'.2 k) = E) (ho : ∀ j, j ≠ k → M'.1 j = M.1 j ∧ M'.2 j = M.2 j) : (WS N ad C M).set k (ad k, E) = WS N ad C M' := by
  apply List.ext_getElem?
  intro j
  by_cases e : k = j
  · subst e
    rw [List.getElem?_set_self (by simpa [WS] using hk), WS_get hk, h1]
  · rw [List.getElem?_set_ne e]
    by_cases hj : j < N
    · rw [WS_get hj, WS_get hj, (ho j (Ne.symm e)).1, (ho j (Ne.symm e)).2]
    · have h2 : N ≤ j := Nat.le_of_not_lt hj
      simp [WS, h2]
theorem sA_1 (M : Mem) (k : Nat) (f : Nat → Int32) : (sA M k f).1 k = f := by simp [sA]
theorem sA_2 (M : Mem) (k : Nat) (f : Nat → Int32) (a : Nat) : (sA M k f).2 a = M.2 a := rfl
theorem sA_n (M : Mem) (k : Nat) (f : Nat → Int32) {a : Nat} (h : a ≠ k) : (sA M k f).1 a = M.1 a := by simp [sA, h]
theorem sL_1 (M : Mem) (k i : Nat) (v : Int64) (a : Nat) : (sL M k i v).1 a = M.1 a := rfl
theorem sL_2 (M : Mem) (k i : Nat) (v : Int64) : (sL M k i v).2 k = vp_updL (M.2 k) i v := by simp [sL]
theorem sL_n (M : Mem) (k i : Nat) (v : Int64) {a : Nat} (h : a ≠ k) : (sL M k i v).2 a = M.2 a := by simp [sL, h]
theorem WS_sA {N : Nat} {ad : Nat → Nat} {C : CF} {M : Mem} {k : Nat} {f : Nat → Int32} {E : va_E} (hk : k < N) (h1 : C k f (M.2 k) = E) : (WS N ad C M).set k (ad k, E) = WS N ad C (sA M k f) :=
  WS_set hk (by rw [sA_1, sA_2]; exact h1) (fun j hj => ⟨sA_n M k f hj, rfl⟩)
theorem WS_sL {N : Nat} {ad : Nat → Nat} {C : CF} {M : Mem} {k i : Nat} {v : Int64} {E : va_E} (hk : k < N) (h1 : C k (M.1 k) (vp_updL (M.2 k) i v) = E) : (WS N ad C M).set k (ad k, E) = WS N ad C (sL M k i v) :=
  WS_set hk (by rw [sL_1, sL_2]; exact h1) (fun j hj => ⟨rfl, sL_n M k i v hj⟩)
/-! words of the forms -/
def inb (i : Int32) (n : Nat) : Bool := decide (¬ (i < 0 ∨ n ≤ i.toNatClampNeg))
theorem inb_in {i : Int32} {n : Nat} (h : inb i n = true) : vp_in i n := by
  have h1 : ¬ (i < 0 ∨ n ≤ i.toNatClampNeg) := of_decide_eq_true h
  exact h1
theorem inb_lt {i : Int32} {n : Nat} (h : inb i n = true) : i.toNatClampNeg < n := by
  have h1 : ¬ (i < 0 ∨ n ≤ i.toNatClampNeg) := of_decide_eq_true h
  exact Nat.lt_of_not_le (fun q => h1 (Or.inr q))
abbrev ix (i : Int32) : Nat := i.toNatClampNeg
def grd {α : Type} (b : Bool) (x : Option α) : Option α := if b = true then x else none
theorem grd_some {α : Type} {b : Bool} {x : Option α} {r : α} (h : grd b x = some r) : b = true ∧ x = some r := by
  unfold grd at h
  split at h
  · exact ⟨by assumption, h⟩
  · cases h
def bI {α β : Type} (o : Option (α × Mem)) (k : α → Mem → Option β) : Option β := match o with
  | some q => k q.1 q.2
  | none => none
theorem bI_some {α β : Type} {o : Option (α × Mem)} {k : α → Mem → Option β} {r : β} (h : bI o k = some r) : ∃ (a : α) (m : Mem), o = some (a, m) ∧ k a m = some r := by
  cases o with
  | none => cases h
  | some q => exact ⟨q.1, q.2, rfl, h⟩
def bR {α β : Type} (o : Option α) (k : α → Option β) : Option β := match o with
  | some a => k a
  | none => none
theorem bR_some {α β : Type} {o : Option α} {k : α → Option β} {r : β} (h : bR o k = some r) : ∃ a : α, o = some a ∧ k a = some r := by
  cases o with
  | none => cases h
  | some q => exact ⟨q, rfl, h⟩
def jn {α β : Type} (A : α → β) (k : α) : β := A k
theorem jn_some {α β : Type} {A : α → Option β} {K : α} {r : β} (h : jn A K = some r) : ∃ k : α, k = K ∧ A k = some r := ⟨K, rfl, h⟩
theorem ifp {α : Type} {c : Prop} {q : Decidable c} {a b r : α} (hc : c) (h : (if c then a else b) = r) : a = r := by rwa [if_pos hc] at h
theorem ifn {α : Type} {c : Prop} {q : Decidable c} {a b r : α} (hc : ¬ c) (h : (if c then a else b) = r) : b = r := by rwa [if_neg hc] at h
def irm (x y : Int32) : Int32 := x - x / y * y
def lrm (x y : Int64) : Int64 := x - x / y * y
def shl (x y : Int32) : Int32 := x <<< (y &&& 31)
def shr (x y : Int32) : Int32 := x >>> (y &&& 31)
def nz (y : Int32) : Bool := decide (¬ y = 0)
def nzL (y : Int64) : Bool := decide (¬ y = 0)
theorem nz_ne {y : Int32} (h : nz y = true) : ¬ y = 0 := of_decide_eq_true h
theorem nzL_ne {y : Int64} (h : nzL y = true) : ¬ y = 0 := of_decide_eq_true h
def mxI (x y : Int32) : Int32 := if x < y then y else x
def mnI (x y : Int32) : Int32 := if y < x then y else x
def isB (v : Int32) : Bool := decide (v = 0 ∨ v = 1)
theorem isB_nar {v : Int32} (h : isB v = true) : narrow .boolean (.int v) = .int v := by
  have h1 : v = 0 ∨ v = 1 := of_decide_eq_true h
  rcases h1 with rfl | rfl <;> rfl
def cpk (sp dp n : Int32) (n0 n1 : Nat) : Bool := decide (¬ sp < 0 ∧ ¬ dp < 0 ∧ ¬ n < 0 ∧ sp.toNatClampNeg + n.toNatClampNeg ≤ n0 ∧ dp.toNatClampNeg + n.toNatClampNeg ≤ n1)
def FU : Nat := 100000
def lett (j : Nat) : Int32 := ([116, 119, 101, 115, 102, 100] : List Int32).getD j 0
/-! the tables' words that every method may rest on -/
def lw_g : List Cond := lw_tbl.filter goodWord
theorem mem_g {i : Nat} {w : Cond} (h : lw_tbl[i]? = some w) (hg : goodWord w = true) : w ∈ lw_g := List.mem_filter.mpr ⟨List.mem_of_getElem? h, hg⟩
theorem lw_g_tbl {w : Cond} (h : w ∈ lw_g) : w ∈ lw_tbl := (List.mem_filter.mp h).1
theorem good_g {big : List Cond} {w : Cond} (hb : ∀ w ∈ lw_g, w ∈ big) (h : w ∈ lw_g) : w ∈ big ∧ ((w.onTables && w.keeps) = true ∨ ∃ ty, w = .arrayClass ty) := ⟨hb w h, good_of_word (List.mem_filter.mp h).2⟩
def cds (y : MethodName) (bytes : ByteArray) (maxL : Nat) (ret : Option FieldType) : List Cond := .code y bytes maxL ret :: lw_g
theorem good_cds {big : List Cond} (hb : ∀ w ∈ lw_g, w ∈ big) {y : MethodName} {bytes : ByteArray} {maxL : Nat} {ret : Option FieldType} (hc : Cond.code y bytes maxL ret ∈ lw_g) (w : Cond) (hw : w ∈ cds y bytes maxL ret) : w ∈ big ∧ ((w.onTables && w.keeps) = true ∨ ∃ ty, w = .arrayClass ty) := by
  rcases List.mem_cons.mp hw with h | h
  · rw [h]; exact good_g hb hc
  · exact good_g hb h
def rmD (d : Nat) : Room := { frames := d, cells := 0, slots := 0, locals := 40 * d }
abbrev tyL (cy : Nat → ClassId) : List (ClassId × FieldType) := [(cy 0, .int), (cy 1, .byte), (cy 2, .boolean), (cy 3, .array .int), (cy 4, .array .byte)]
end
section
/-! the words of nest mates: they are kept beside the tables' words -/
def nestF : List (String × Nat × String × String × String × String) := [("TubeWords", 240, "TubeWords$Store", "kind", "[I", "TubeWords"), ("TubeWords", 141, "TubeWords$Store", "length", "[I", "TubeWords"), ("TubeWords", 144, "TubeWords$Store", "word", "[I", "TubeWords"), ("TubeWords", 147, "TubeWords$Store", "way", "[I", "TubeWords"), ("TubeWords", 108, "TubeWords$Store", "size", "I", "TubeWords"), ("TubeWords", 127, "TubeWords$Store", "time", "I", "TubeWords"), ("TubeWords$Store", 45, "TubeWords", "LETTERS", "[B", "TubeWords")]
def nestM : List (String × Nat × MethodName × String) := [("TubeWords", 28, ⟨"TubeWords$Store", "<init>", "()V"⟩, "TubeWords"), ("TubeWords", 97, ⟨"TubeWords$Store", "read", "([BI)I"⟩, "TubeWords"), ("TubeWords", 101, ⟨"TubeWords$Store", "beginAnew", "()V"⟩, "TubeWords"), ("TubeWords", 104, ⟨"TubeWords$Store", "takeFrom", "(LTubeWords$Store;)V"⟩, "TubeWords"), ("TubeWords", 111, ⟨"TubeWords$Store", "has", "(I)Z"⟩, "TubeWords"), ("TubeWords", 117, ⟨"TubeWords$Store", "fact", "(II)I"⟩, "TubeWords"), ("TubeWords", 120, ⟨"TubeWords$Store", "isOf", "(II)Z"⟩, "TubeWords"), ("TubeWords", 124, ⟨"TubeWords$Store", "tells", "(II)I"⟩, "TubeWords"), ("TubeWords", 159, ⟨"TubeWords$Store", "goOn", "(I)V"⟩, "TubeWords"), ("TubeWords", 234, ⟨"TubeWords$Store", "turnSlot", "(II)V"⟩, "TubeWords"), ("TubeWords", 186, ⟨"TubeWords$Store", "swapWays", "(II)V"⟩, "TubeWords"), ("TubeWords", 237, ⟨"TubeWords$Store", "putWord", "(II)V"⟩, "TubeWords"), ("TubeWords", 137, ⟨"TubeWords$Store", "pulses", "()I"⟩, "TubeWords"), ("TubeWords", 150, ⟨"TubeWords$Store", "canHave", "(II)Z"⟩, "TubeWords"), ("TubeWords", 163, ⟨"TubeWords$Store", "isReady", "(I)Z"⟩, "TubeWords"), ("TubeWords", 166, ⟨"TubeWords$Store", "comesOut", "(I)I"⟩, "TubeWords"), ("TubeWords", 174, ⟨"TubeWords$Store", "hasWordsOf", "(LTubeWords$Store;)Z"⟩, "TubeWords"), ("TubeWords", 178, ⟨"TubeWords$Store", "emptyOnes", "()I"⟩, "TubeWords"), ("TubeWords", 207, ⟨"TubeWords$Store", "ends", "()I"⟩, "TubeWords"), ("TubeWords", 249, ⟨"TubeWords$Store", "putEnds", "(I)V"⟩, "TubeWords"), ("TubeWords", 265, ⟨"TubeWords$Store", "empty", "(I)V"⟩, "TubeWords"), ("TubeWords", 268, ⟨"TubeWords$Store", "slots", "()I"⟩, "TubeWords"), ("TubeWords", 275, ⟨"TubeWords$Store", "manyOf", "(I)I"⟩, "TubeWords")]
def NW (U : State) : Prop := (∀ q ∈ nestF, va_Nw (.fieldLinkNest q.1 q.2.1 q.2.2.1 q.2.2.2.1 q.2.2.2.2.1 q.2.2.2.2.2) U) ∧ ∀ q ∈ nestM, va_Nw (.methodLinkNest q.1 q.2.1 q.2.2.1 q.2.2.2) U
theorem NW.warm {s U : State} (hW : s.WarmedH U.vm) (h : NW s) : NW U := ⟨fun q hq => va_Nw.warmF hW (h.1 q hq), fun q hq => va_Nw.warmM hW (h.2 q hq)⟩
theorem NW.same {s U : State} (hv : s.vm = U.vm) (h : NW s) : NW U := ⟨fun q hq => va_Nw.same rfl hv (h.1 q hq), fun q hq => va_Nw.same rfl hv (h.2 q hq)⟩
/-! the static row of letters -/
def SZ (A : Nat → Prop) (U : State) (H : Heap) : Prop := ∃ t : Nat, va_Z RX1 "LETTERS" "[B" (.ref t) A U H ∧ va_T .byte t 6 (fun j => .int (lett j)) A U H
theorem SZ.sub {A B : Nat → Prop} {s U : State} {H0 H : Heap} (h : SZ A s H0) (hvm : s.vm.Alike U.vm) (hAB : ∀ q, B q → A q) (hk : ∀ a : Nat, a < H0.size → ¬ A a → H[a]? = H0[a]?) : SZ B U H := by
  obtain ⟨t, h1, h2⟩ := h
  exact ⟨t, ((h1.kept hk).narrow hAB).moved hvm, ((h2.kept hk).narrow hAB).moved hvm⟩
/-! a method's frame, and the world at a memory -/
def Cx (p : Program) (s : State) (m : MethodId) (args : Array Value) (c : Code) (cc : ByteArray) (nL : Nat) (own : String) (D : va_G) (cy : Nat → ClassId) : Prop := p.tables.exec = Jvm.exec ∧ c.code = cc ∧ c.maxLocals = nL ∧ s.vm.findClass own = some m.cls ∧ (∀ w ∈ lw_g, w.before args s = true) ∧ va_K D vwCl (tyL cy) s ∧ NW s
def Wd (D : va_G) (N : Nat) (ad : Nat → Nat) (C : CF) (A : Nat → Prop) (H0 : Heap) (M : Mem) (H : Heap) (locs : List Loc) : Prop := va_P D vwCl (WS N ad C M) H ∧ va_D A (WS N ad C M) ∧ va_S A H0 H locs
def PreW (N : Nat) (C : CF) (D : va_G) (cy : Nat → ClassId) (ad : Nat → Nat) (sz : Nat) (M : Mem) (U : State) : Prop := U.heap.size = sz ∧ va_P D vwCl (WS N ad C M) U.heap ∧ va_K D vwCl (tyL cy) U ∧ va_D (fun _ => True) (WS N ad C M) ∧ NW U ∧ SZ (va_A (WS N ad C M) sz) U U.heap
def AtW (N : Nat) (C : CF) (D : va_G) (cy : Nat → ClassId) (ad : Nat → Nat) (A : Nat → Prop) (M : Mem) (t : State) : Prop := va_P D vwCl (WS N ad C M) t.heap ∧ va_K D vwCl (tyL cy) t ∧ va_D A (WS N ad C M)
abbrev QI (r : Int32) (M' : Mem) (N : Nat) (C : CF) (D : va_G) (cy : Nat → ClassId) (ad : Nat → Nat) (A : Nat → Prop) : Array Value → State → Outcome → State → Prop := va_Qi (fun (r' : Int32) (M'' : Mem) => r' = r ∧ M'' = M') (AtW N C D cy ad A) A
abbrev QL (r : Int64) (M' : Mem) (N : Nat) (C : CF) (D : va_G) (cy : Nat → ClassId) (ad : Nat → Nat) (A : Nat → Prop) : Array Value → State → Outcome → State → Prop := va_Ql (fun (r' : Int64) (M'' : Mem) => r' = r ∧ M'' = M') (AtW N C D cy ad A) A
abbrev QV (M' : Mem) (N : Nat) (C : CF) (D : va_G) (cy : Nat → ClassId) (ad : Nat → Nat) (A : Nat → Prop) : Array Value → State → Outcome → State → Prop := va_Qv (fun (M'' : Mem) => M'' = M') (AtW N C D cy ad A) A
def MetX (l : Launch) (N : Nat) (C : CF) (D : va_G) (cy : Nat → ClassId) (ad : Nat → Nat) (y : MethodName) (bytes : ByteArray) (maxL : Nat) (ret : Option FieldType) (d : Nat) (av : List Value) (M : Mem) (Qc : (Nat → Prop) → Array Value → State → Outcome → State → Prop) : Prop :=
  ∀ sz : Nat, Met l y (cds y bytes maxL ret) (rmD d) (va_Pc av (PreW N C D cy ad sz M)) (Qc (va_A (WS N ad C M) sz)) 0 0 (va_A (WS N ad C M) sz)
theorem MetX.of {l : Launch} {N : Nat} {C : CF} {D : va_G} {cy : Nat → ClassId} {ad : Nat → Nat} {y : MethodName} {bytes : ByteArray} {maxL : Nat} {ret : Option FieldType} {d : Nat} {av : List Value} {M : Mem} {Qc : (Nat → Prop) → Array Value → State → Outcome → State → Prop} {own : String}
    (hy : plainName y.cls = true) (ho : y.cls = own) (hlen : (lg_sl av).length ≤ maxL)
    (body : ∀ (p : Program) (e : Env) (s : State) (m : MethodId) (below : List Frame) (meth : Method) (c : Code) (A : Nat → Prop) (Q : State → Prop) (ls : Array Slot), Cx p s m av.toArray c bytes maxL own D cy → meth.sig.returnType = ret → meth.locks = false → SZ A s s.heap → (∀ q, s.heap.size ≤ q → A q) → Q = MQ below (Qc A) av.toArray s 0 0 A → Wd D N ad C A s.heap M s.heap [] → lv_has ls maxL (lv_args 0 av) → W p l e (rmD d) s m av.toArray below meth c s.heap [] 0 0 Q (F0 m 0 ls [])) : MetX l N C D cy ad y bytes maxL ret d av M Qc := by
  intro sz
  refine Met.ofW (cc := bytes) (maxL := maxL) (ret := ret) hy rfl ?_
  intro p e s m args below meth c s₁ B hml hv
  obtain ⟨rfl, hsz, hP, hK, hD0, hN, hZ⟩ := hv
  have hts := atoms_spec (ws := cds y bytes maxL ret) B.pre
  have hown : s.vm.findClass own = some m.cls := by rw [← ho]; exact findClass_of_methodNamed B.named
  subst hsz
  have hD := hD0.self (sz := s.heap.size)
  have hl := lv_entry av (n := maxL) hlen
  rw [lg_entry_eq]
  exact body p e s m below meth c _ _ _ ⟨B.exec, B.bytes, hml, hown, fun w hw => hts w (List.mem_cons_of_mem _ hw), hK, hN⟩ B.returns B.notSynchronized hZ (fun q h => Or.inr h) rfl ⟨hP, hD, va_S.rf⟩ hl
section G1
variable {p : Program} {l : Launch} {e : Env} {s : State} {m : MethodId} {args : Array Value} {below : List Frame} {meth : Method} {c : Code} {H : Heap} {locs : List Loc} {R : Room} {d : Nat} {Q : State → Prop}
variable {cc : ByteArray} {pc nL : Nat} {ls : Array Slot} {rest : List Value} {D : va_G} {A : Nat → Prop} {cy : Nat → ClassId} {own : String} {N : Nat} {ad : Nat → Nat} {C : CF} {M M' : Mem}
theorem g_iret (X : Cx p s m args c cc nL own D cy) (hr : meth.sig.returnType = some .int) (hlk : meth.locks = false) {v r : Int32} (hQ : Q = MQ below (QI r M' N C D cy ad A) args s 0 0 A) (hW : Wd D N ad C A s.heap M H locs) (hdg : decode cc pc = .ok (.ireturn, 1)) (hf : (some (v, M) : Option (Int32 × Mem)) = some (r, M')) : W p l e R s m args below meth c H locs 0 0 Q (F0 m pc ls [.int v]) := by
  cases hf
  rw [hQ]
  exact W.iret X.1 X.2.1 hr (fun t ht hw => ⟨⟨v, M, rfl, ⟨rfl, rfl⟩, by rw [ht]; exact hW.1, va_K.moved hw.alike X.2.2.2.2.2.1, hW.2.1⟩, hW.2.2.F ht⟩) hW.2.2.2.2 hdg hlk
theorem g_zret (X : Cx p s m args c cc nL own D cy) (hr : meth.sig.returnType = some .boolean) (hlk : meth.locks = false) {v r : Int32} (hQ : Q = MQ below (QI r M' N C D cy ad A) args s 0 0 A) (hW : Wd D N ad C A s.heap M H locs) (hdg : decode cc pc = .ok (.ireturn, 1)) (hn : isB v = true) (hf : (some (v, M) : Option (Int32 × Mem)) = some (r, M')) : W p l e R s m args below meth c H locs 0 0 Q (F0 m pc ls [.int v]) := by
  cases hf
  rw [hQ]
  exact W.zret X.1 X.2.1 hr (isB_nar hn) (fun t ht hw => ⟨⟨v, M, rfl, ⟨rfl, rfl⟩, by rw [ht]; exact hW.1, va_K.moved hw.alike X.2.2.2.2.2.1, hW.2.1⟩, hW.2.2.F ht⟩) hW.2.2.2.2 hdg hlk
theorem g_lret (X : Cx p s m args c cc nL own D cy) (hr : meth.sig.returnType = some .long) (hlk : meth.locks = false) {v r : Int64} (hQ : Q = MQ below (QL r M' N C D cy ad A) args s 0 0 A) (hW : Wd D N ad C A s.heap M H locs) (hdg : decode cc pc = .ok (.lreturn, 1)) (hf : (some (v, M) : Option (Int64 × Mem)) = some (r, M')) : W p l e R s m args below meth c H locs 0 0 Q (F0 m pc ls [.long v]) := by
  cases hf
  rw [hQ]
  exact W.lret X.1 X.2.1 hr (fun t ht hw => ⟨⟨v, M, rfl, ⟨rfl, rfl⟩, by rw [ht]; exact hW.1, va_K.moved hw.alike X.2.2.2.2.2.1, hW.2.1⟩, hW.2.2.F ht⟩) hW.2.2.2.2 hdg hlk
theorem g_vret (X : Cx p s m args c cc nL own D cy) (hr : meth.sig.returnType = none) (hlk : meth.locks = false) (hQ : Q = MQ below (QV M' N C D cy ad A) args s 0 0 A) (hW : Wd D N ad C A s.heap M H locs) (hdg : decode cc pc = .ok (.return_, 1)) (hf : (some M : Option Mem) = some M') : W p l e R s m args below meth c H locs 0 0 Q (F0 m pc ls []) := by
  cases hf
  rw [hQ]
  exact W.vret X.1 X.2.1 hr (fun t ht hw => ⟨⟨M, rfl, rfl, by rw [ht]; exact hW.1, va_K.moved hw.alike X.2.2.2.2.2.1, hW.2.1⟩, hW.2.2.F ht⟩) hW.2.2.2.2 hdg hlk
theorem rd_some {α : Type} {v r : α} {M : Mem} (h : some v = some r) : (some (v, M) : Option (α × Mem)) = some (r, M) := by cases h; rfl
/-! arrays -/
def isA (C : CF) (N k : Nat) (cA : ClassId) (n : Nat) : Prop := k < N ∧ ∀ (fi : Nat → Int32) (fl : Nat → Int64), C k fi fl = .inl (cA, n, .inl fi)
theorem isA.get {k n : Nat} {cA : ClassId} (h : isA C N k cA n) : (WS N ad C M)[k]? = some (ad k, .inl (cA, n, .inl (M.1 k))) := by rw [WS_get h.1, h.2]
theorem g_iald (X : Cx p s m args c cc nL own D cy) (hW : Wd D N ad C A s.heap M H locs) {k n : Nat} (hk : isA C N k (cy 0) n) {i : Int32} (hin : inb i n = true) (hdg : decode cc pc = .ok (.iaload, 1))
    (kk : W p l e R s m args below meth c H locs 0 0 Q (F0 m (pc + 1) ls (.int (M.1 k (ix i)) :: rest))) : W p l e R s m args below meth c H locs 0 0 Q (F0 m pc ls (.int i :: .ref (ad k) :: rest)) :=
  va_iald X.1 X.2.1 X.2.2.2.2.2.1 hW.1 k 0 hk.get rfl (inb_in hin) hdg kk
theorem g_bald (X : Cx p s m args c cc nL own D cy) (hW : Wd D N ad C A s.heap M H locs) {k n : Nat} (hk : isA C N k (cy 1) n) {i : Int32} (hin : inb i n = true) (hdg : decode cc pc = .ok (.baload, 1))
    (kk : W p l e R s m args below meth c H locs 0 0 Q (F0 m (pc + 1) ls (.int (M.1 k (ix i)) :: rest))) : W p l e R s m args below meth c H locs 0 0 Q (F0 m pc ls (.int i :: .ref (ad k) :: rest)) :=
  va_bald X.1 X.2.1 X.2.2.2.2.2.1 hW.1 k 1 hk.get rfl (inb_in hin) hdg kk
theorem g_zald (X : Cx p s m args c cc nL own D cy) (hW : Wd D N ad C A s.heap M H locs) {k n : Nat} (hk : isA C N k (cy 2) n) {i : Int32} (hin : inb i n = true) (hdg : decode cc pc = .ok (.baload, 1))
    (kk : W p l e R s m args below meth c H locs 0 0 Q (F0 m (pc + 1) ls (.int (M.1 k (ix i)) :: rest))) : W p l e R s m args below meth c H locs 0 0 Q (F0 m pc ls (.int i :: .ref (ad k) :: rest)) :=
  va_zald X.1 X.2.1 X.2.2.2.2.2.1 hW.1 k 2 hk.get rfl (inb_in hin) hdg kk
theorem g_iast (X : Cx p s m args c cc nL own D cy) (hW : Wd D N ad C A s.heap M H locs) {k n : Nat} (hk : isA C N k (cy 0) n) {i x : Int32} (hin : inb i n = true) (hdg : decode cc pc = .ok (.iastore, 1))
    (kk : ∀ (H1 : Heap) (locs1 : List Loc), Wd D N ad C A s.heap (sI M k (ix i) x) H1 locs1 → W p l e R s m args below meth c H1 locs1 0 0 Q (F0 m (pc + 1) ls rest)) : W p l e R s m args below meth c H locs 0 0 Q (F0 m pc ls (.int x :: .int i :: .ref (ad k) :: rest)) :=
  va_iast X.1 X.2.1 X.2.2.2.2.2.1 hW.1 hW.2.1 hW.2.2 k 0 hk.get rfl (inb_in hin) hdg (fun H1 locs1 h1 h2 h3 => by
    rw [WS_sA hk.1 (hk.2 _ _)] at h1 h2
    exact kk H1 locs1 ⟨h1, h2, h3⟩)
theorem g_bast (X : Cx p s m args c cc nL own D cy) (hW : Wd D N ad C A s.heap M H locs) {k n : Nat} (hk : isA C N k (cy 1) n) {i x : Int32} (hin : inb i n = true) (hdg : decode cc pc = .ok (.bastore, 1))
    (kk : ∀ (H1 : Heap) (locs1 : List Loc), Wd D N ad C A s.heap (sI M k (ix i) (vp_nar .byte x)) H1 locs1 → W p l e R s m args below meth c H1 locs1 0 0 Q (F0 m (pc + 1) ls rest)) : W p l e R s m args below meth c H locs 0 0 Q (F0 m pc ls (.int x :: .int i :: .ref (ad k) :: rest)) :=
  va_bast X.1 X.2.1 X.2.2.2.2.2.1 hW.1 hW.2.1 hW.2.2 k 1 hk.get rfl (inb_in hin) hdg (fun H1 locs1 h1 h2 h3 => by
    rw [WS_sA hk.1 (hk.2 _ _)] at h1 h2
    exact kk H1 locs1 ⟨h1, h2, h3⟩)
theorem g_zast (X : Cx p s m args c cc nL own D cy) (hW : Wd D N ad C A s.heap M H locs) {k n : Nat} (hk : isA C N k (cy 2) n) {i x : Int32} (hin : inb i n = true) (hdg : decode cc pc = .ok (.bastore, 1))
    (kk : ∀ (H1 : Heap) (locs1 : List Loc), Wd D N ad C A s.heap (sI M k (ix i) (vp_nar .boolean x)) H1 locs1 → W p l e R s m args below meth c H1 locs1 0 0 Q (F0 m (pc + 1) ls rest)) : W p l e R s m args below meth c H locs 0 0 Q (F0 m pc ls (.int x :: .int i :: .ref (ad k) :: rest)) :=
  va_zast X.1 X.2.1 X.2.2.2.2.2.1 hW.1 hW.2.1 hW.2.2 k 2 hk.get rfl (inb_in hin) hdg (fun H1 locs1 h1 h2 h3 => by
    rw [WS_sA hk.1 (hk.2 _ _)] at h1 h2
    exact kk H1 locs1 ⟨h1, h2, h3⟩)
theorem g_alen (X : Cx p s m args c cc nL own D cy) (hW : Wd D N ad C A s.heap M H locs) {k n t0 : Nat} {cA : ClassId} {ty : FieldType} (hk : isA C N k cA n) (ht : (tyL cy)[t0]? = some (cA, ty)) (hdg : decode cc pc = .ok (.arraylength, 1))
    (kk : W p l e R s m args below meth c H locs 0 0 Q (F0 m (pc + 1) ls (.int (nI n) :: rest))) : W p l e R s m args below meth c H locs 0 0 Q (F0 m pc ls (.ref (ad k) :: rest)) :=
  va_alen X.1 X.2.1 X.2.2.2.2.2.1 hW.1 k t0 hk.get ht rfl hdg kk
theorem g_copy (X : Cx p s m args c cc nL own D cy) (hml : ls.size = nL) (hW : Wd D N ad C A s.heap M H locs) {index : Nat} (hlink : Cond.methodLink own index arraycopyName ∈ lw_g) (hnat : Cond.native arraycopyName ∈ lw_g) (hstat : Cond.static arraycopyName ∈ lw_g) (hini : Cond.initialized "java/lang/System" ∈ lw_g) {k0 k1 n0 n1 : Nat} (h0 : isA C N k0 (cy 0) n0) (h1 : isA C N k1 (cy 0) n1) {sp dp n : Int32} (hok : cpk sp dp n n0 n1 = true) (hfr : 1 ≤ R.frames) (hlo : (rest.map fun v => v.category).sum + (nativeFrameWords "java/lang/System" "arraycopy" 5 + 11) ≤ R.locals) (hdg : decode cc pc = .ok (.invokestatic index, 3))
    (kk : ∀ (H1 : Heap) (locs1 : List Loc), Wd D N ad C A s.heap (sA M k1 (va_cpy (M.1 k0) (M.1 k1) (ix sp) (ix dp) (ix n))) H1 locs1 → W p l e R s m args below meth c H1 locs1 0 0 Q (F0 m (pc + 3) ls rest)) : W p l e R s m args below meth c H locs 0 0 Q (F0 m pc ls (.int n :: .int dp :: .ref (ad k1) :: .int sp :: .ref (ad k0) :: rest)) := by
  obtain ⟨hx, hb, hm2, hown, hts, hK, hN⟩ := X
  have hok' : ¬ sp < 0 ∧ ¬ dp < 0 ∧ ¬ n < 0 ∧ sp.toNatClampNeg + n.toNatClampNeg ≤ n0 ∧ dp.toNatClampNeg + n.toNatClampNeg ≤ n1 := of_decide_eq_true hok
  exact va_copyi hx hb (hm2.trans hml.symm) hown (hts _ hlink) (hts _ hnat) (hts _ hstat) (hts _ hini) hK hW.1 hW.2.1 hW.2.2 k0 k1 0 0 h0.get h1.get rfl rfl rfl hok'.1 hok'.2.1 hok'.2.2.1 hok'.2.2.2.1 hok'.2.2.2.2 (fun _ _ => rfl) hfr hlo hdg (fun H1 locs1 q1 q2 q3 => by
    rw [WS_sA h1.1 (h1.2 _ _)] at q1 q2
    exact kk H1 locs1 ⟨q1, q2, q3⟩)
/-! a row of rows: its places lead to the cells from b on -/
def isG (ad : Nat → Nat) (C : CF) (N k : Nat) (cA : ClassId) (n b : Nat) : Prop := k < N ∧ ∀ (fi : Nat → Int32) (fl : Nat → Int64), C k fi fl = .inl (cA, n, .inr (.inr (.inr (.inr (fun j => if j < n then some (ad (b + j)) else none)))))
theorem g_aald (X : Cx p s m args c cc nL own D cy) (hW : Wd D N ad C A s.heap M H locs) {k n b t0 : Nat} {cA : ClassId} {ty : FieldType} (hk : isG ad C N k cA n b) (ht : (tyL cy)[t0]? = some (cA, ty)) (hty : ty.isReference = true) {i : Int32} (hin : inb i n = true) (hdg : decode cc pc = .ok (.aaload, 1))
    (kk : W p l e R s m args below meth c H locs 0 0 Q (F0 m (pc + 1) ls (.ref (ad (b + ix i)) :: rest))) : W p l e R s m args below meth c H locs 0 0 Q (F0 m pc ls (.int i :: .ref (ad k) :: rest)) := by
  have hg : (WS N ad C M)[k]? = some (ad k, .inl (cA, n, .inr (.inr (.inr (.inr (fun j => if j < n then some (ad (b + j)) else none)))))) := by rw [WS_get hk.1, hk.2]
  have hc := hW.1 k _ hg
  have hlt : i.toNatClampNeg < n := inb_lt hin
  refine W.aald X.1 X.2.1 (cell := vp_cell cA (n, .inr (.inr (.inr (.inr (fun j => if j < n then some (ad (b + j)) else none)))))) (v := .ref (ad (b + ix i))) hc ((X.2.2.2.2.2.1.2 t0 _ ht).1 n _) hty (by rw [vp_cell_q]; intro h; cases h) ?_ ?_ rfl rfl hdg kk
  · rw [vp_cell_q, show (arrV cA n _).slots.size = n by simp [arrV]]
    exact of_decide_eq_true hin
  · rw [vp_cell_q]
    simp [arrV, hlt, va_rf, ix]
/-! fields -/
theorem g_get (X : Cx p s m args c cc nL own D cy) (hW : Wd D N ad C A s.heap M H locs) {k : Nat} (hk : k < N) {ci : Nat} {fs : List Value} (hc : C k (M.1 k) (M.2 k) = .inr (ci, fs)) {Cn : String} {T : u_T} {Nn index : Nat} (hcl : vwCl[ci]? = some (Cn, T, Nn)) (hin : ∀ w ∈ u_ws Cn T Nn, w ∈ lw_g) (j : Nat) (hj : j < Nn) (hlink : Cond.fieldLink own index (T j).1 (T j).2.1 (T j).2.2.1 ∈ lw_g) {v : Value} (hv : fs[j]? = some v) (hdg : decode cc pc = .ok (.getfield index, 3))
    (kk : W p l e R s m args below meth c H locs 0 0 Q (F0 m (pc + 3) ls (v :: rest))) : W p l e R s m args below meth c H locs 0 0 Q (F0 m pc ls (.ref (ad k) :: rest)) :=
  va_get X.1 X.2.1 X.2.2.2.2.1 hin X.2.2.2.1 X.2.2.2.2.2.1 hW.1 k (by rw [WS_get hk, hc]) hcl j hj (X.2.2.2.2.1 _ hlink) (fun _ h9 => h9) hv hdg kk
theorem g_getN (X : Cx p s m args c cc nL own D cy) (hW : Wd D N ad C A s.heap M H locs) {k : Nat} (hk : k < N) {ci : Nat} {fs : List Value} (hc : C k (M.1 k) (M.2 k) = .inr (ci, fs)) {Cn host : String} {T : u_T} {Nn index : Nat} (hcl : vwCl[ci]? = some (Cn, T, Nn)) (hin : ∀ w ∈ u_ws Cn T Nn, w ∈ lw_g) (j : Nat) (hj : j < Nn) (hlink : (own, index, (T j).1, (T j).2.1, (T j).2.2.1, host) ∈ nestF) {v : Value} (hv : fs[j]? = some v) (hdg : decode cc pc = .ok (.getfield index, 3))
    (kk : W p l e R s m args below meth c H locs 0 0 Q (F0 m (pc + 3) ls (v :: rest))) : W p l e R s m args below meth c H locs 0 0 Q (F0 m pc ls (.ref (ad k) :: rest)) :=
  va_getN X.1 X.2.1 X.2.2.2.2.1 hin X.2.2.2.1 X.2.2.2.2.2.1 hW.1 k (by rw [WS_get hk, hc]) hcl j hj (va_Nw.use rfl (X.2.2.2.2.2.2.1 _ hlink)) (fun _ h9 => h9) hv hdg kk
theorem g_putI (X : Cx p s m args c cc nL own D cy) (hW : Wd D N ad C A s.heap M H locs) {k : Nat} (hk : k < N) {ci : Nat} {fs : List Value} (hc : C k (M.1 k) (M.2 k) = .inr (ci, fs)) {Cn : String} {T : u_T} {Nn index : Nat} (hcl : vwCl[ci]? = some (Cn, T, Nn)) (hin : ∀ w ∈ u_ws Cn T Nn, w ∈ lw_g) (ty0 : Nat → FieldType) (hty : ∀ k, k < Nn → parseFieldDescriptor (T k).2.2.1 = some (ty0 k)) (hnm : ∀ a, a < Nn → ∀ b, b < Nn → a ≠ b → (T a).2.1 ≠ (T b).2.1) (j : Nat) (hj : j < Nn) (hlink : Cond.fieldLink own index (T j).1 (T j).2.1 (T j).2.2.1 ∈ lw_g) (hfin : (T j).2.2.2 = false) {v : Int32} (hd : parseFieldDescriptor (T j).2.2.1 = some .int) (hl : j < fs.length) (hset : C k (upd (M.1 k) j v) (M.2 k) = .inr (ci, fs.set j (.int v))) (hdg : decode cc pc = .ok (.putfield index, 3))
    (kk : ∀ (H1 : Heap) (locs1 : List Loc), Wd D N ad C A s.heap (sI M k j v) H1 locs1 → W p l e R s m args below meth c H1 locs1 0 0 Q (F0 m (pc + 3) ls rest)) : W p l e R s m args below meth c H locs 0 0 Q (F0 m pc ls (.int v :: .ref (ad k) :: rest)) :=
  va_put X.1 X.2.1 X.2.2.2.2.1 hin ty0 hty hnm X.2.2.2.1 X.2.2.2.2.2.1 hW.1 hW.2.1 hW.2.2 k (by rw [WS_get hk, hc]) hcl j hj (X.2.2.2.2.1 _ hlink) (fun _ h9 => h9) hfin hd rfl rfl hl hdg (fun H1 locs1 h1 h2 h3 => by
    rw [WS_sA hk hset] at h1 h2
    exact kk H1 locs1 ⟨h1, h2, h3⟩)
theorem g_putL (X : Cx p s m args c cc nL own D cy) (hW : Wd D N ad C A s.heap M H locs) {k : Nat} (hk : k < N) {ci : Nat} {fs : List Value} (hc : C k (M.1 k) (M.2 k) = .inr (ci, fs)) {Cn : String} {T : u_T} {Nn index : Nat} (hcl : vwCl[ci]? = some (Cn, T, Nn)) (hin : ∀ w ∈ u_ws Cn T Nn, w ∈ lw_g) (ty0 : Nat → FieldType) (hty : ∀ k, k < Nn → parseFieldDescriptor (T k).2.2.1 = some (ty0 k)) (hnm : ∀ a, a < Nn → ∀ b, b < Nn → a ≠ b → (T a).2.1 ≠ (T b).2.1) (j : Nat) (hj : j < Nn) (hlink : Cond.fieldLink own index (T j).1 (T j).2.1 (T j).2.2.1 ∈ lw_g) (hfin : (T j).2.2.2 = false) {v : Int64} (hd : parseFieldDescriptor (T j).2.2.1 = some .long) (hl : j < fs.length) (hset : C k (M.1 k) (vp_updL (M.2 k) j v) = .inr (ci, fs.set j (.long v))) (hdg : decode cc pc = .ok (.putfield index, 3))
    (kk : ∀ (H1 : Heap) (locs1 : List Loc), Wd D N ad C A s.heap (sL M k j v) H1 locs1 → W p l e R s m args below meth c H1 locs1 0 0 Q (F0 m (pc + 3) ls rest)) : W p l e R s m args below meth c H locs 0 0 Q (F0 m pc ls (.long v :: .ref (ad k) :: rest)) :=
  va_put X.1 X.2.1 X.2.2.2.2.1 hin ty0 hty hnm X.2.2.2.1 X.2.2.2.2.2.1 hW.1 hW.2.1 hW.2.2 k (by rw [WS_get hk, hc]) hcl j hj (X.2.2.2.2.1 _ hlink) (fun _ h9 => h9) hfin hd rfl rfl hl hdg (fun H1 locs1 h1 h2 h3 => by
    rw [WS_sL hk hset] at h1 h2
    exact kk H1 locs1 ⟨h1, h2, h3⟩)
/-! calls -/
theorem PreW.calls {sz : Nat} {U : State} {g : JFrame} {mk : MethodId} {av : List Value} (a : Array Value) (h : va_Pc av (PreW N C D cy ad sz M) a U) : va_Pc av (PreW N C D cy ad sz M) a (U.calling g mk a) := by
  obtain ⟨h0, h1, h2, h3, h4, h5, h6⟩ := h
  exact ⟨h0, h1, h2, va_K.moved (u := U) (U := U.calling g mk a) (Vm.Alike.refl U.vm) h3, h4, NW.same (s := U) (U := U.calling g mk a) rfl h5, h6.sub (Vm.Alike.refl U.vm) (fun _ h => h) (fun _ _ _ => rfl)⟩
theorem Wd.pre (X : Cx p s m args c cc nL own D cy) (hZ : SZ A s s.heap) (hA : ∀ q, s.heap.size ≤ q → A q) (hW : Wd D N ad C A s.heap M H locs) {U : State} (hU : U.heap = H) (hw : s.WarmedH U.vm) : PreW N C D cy ad H.size M U := by
  have hF := va_free (wc := WS N ad C M) hW.2.1 hW.2.2 hA (List.range (WS N ad C M).length) (by
    apply List.ext_getElem?
    intro i
    by_cases h : i < (WS N ad C M).length
    · simp [h]
    · simp [Nat.le_of_not_lt h])
  refine ⟨by rw [hU], by rw [hU]; exact hW.1, va_K.moved hw.alike X.2.2.2.2.2.1, hW.2.1.weaken (fun _ _ _ _ => trivial), X.2.2.2.2.2.2.warm hw, ?_⟩
  rw [hU]
  exact hZ.sub hw.alike hF hW.2.2.2.1
theorem Wd.free (hA : ∀ q, s.heap.size ≤ q → A q) (hW : Wd D N ad C A s.heap M H locs) : ∀ q, va_A (WS N ad C M) H.size q → A q :=
  va_free (wc := WS N ad C M) hW.2.1 hW.2.2 hA (List.range (WS N ad C M).length) (by
    apply List.ext_getElem?
    intro i
    by_cases h : i < (WS N ad C M).length
    · simp [h]
    · simp [Nat.le_of_not_lt h])
theorem Wd.back (hA : ∀ q, s.heap.size ≤ q → A q) (hW : Wd D N ad C A s.heap M H locs) {t : State} {H1 : Heap} {locs1 : List Loc} (ht : t.heap = H1) (hB : AtW N C D cy ad (va_A (WS N ad C M) H.size) M' t) (hS : va_S A s.heap H1 locs1) : Wd D N ad C A s.heap M' H1 locs1 := by
  refine ⟨by rw [← ht]; exact hB.1, ⟨hB.2.2.1, fun k q hk => hW.free hA q.1 (hB.2.2.2 k q hk)⟩, hS⟩
end G1
end
section
/-! calls, by contract: of methods of the own class, of a nest mate, static ones -/
def CWf (y : MethodName) (bytes : ByteArray) (maxL : Nat) (ret : Option FieldType) (Cn : String) (n : Nat) : Prop := Cond.code y bytes maxL ret ∈ lw_g ∧ Cond.instanceMethod y ∈ lw_g ∧ Cond.selects Cn y y ∈ lw_g ∧ Cond.initialized Cn ∈ lw_g ∧ y.cls = Cn ∧ y.cls ≠ "java/lang/invoke/MethodHandle" ∧ y.cls ≠ "java/lang/invoke/VarHandle" ∧ (parseMethodDescriptor y.desc).map (fun d => d.parameters.length) = some n
def CSf (y : MethodName) (bytes : ByteArray) (maxL : Nat) (ret : Option FieldType) (n : Nat) : Prop := Cond.code y bytes maxL ret ∈ lw_g ∧ Cond.static y ∈ lw_g ∧ Cond.initialized y.cls ∈ lw_g ∧ y.cls ≠ "java/lang/invoke/MethodHandle" ∧ y.cls ≠ "java/lang/invoke/VarHandle" ∧ (parseMethodDescriptor y.desc).map (fun d => d.parameters.length) = some n
def isO (C : CF) (N k : Nat) (Cn : String) : Prop := k < N ∧ ∃ (ci : Nat) (q : vw_C), vwCl[ci]? = some q ∧ q.1 = Cn ∧ ∀ (fi : Nat → Int32) (fl : Nat → Int64), ∃ fs : List Value, C k fi fl = .inr (ci, fs)
theorem good_cdsG {y : MethodName} {bytes : ByteArray} {maxL : Nat} {ret : Option FieldType} (hc : Cond.code y bytes maxL ret ∈ lw_g) : GoodIn lw_g (cds y bytes maxL ret) := fun w hw => good_cds (fun _ h => h) hc w hw
theorem good_wsV {own Cn : String} {index n : Nat} {y : MethodName} {bytes : ByteArray} {maxL : Nat} {ret : Option FieldType} (hf : CWf y bytes maxL ret Cn n) (hl : Cond.methodLink own index y ∈ lw_g) : GoodIn lw_g (wsV own index Cn y (cds y bytes maxL ret)) := by
  intro w hw
  rcases List.mem_append.mp hw with h | h
  · simp only [List.mem_cons, List.not_mem_nil, or_false] at h
    rcases h with rfl | rfl | rfl | rfl
    · exact good_g (fun _ h => h) hl
    · exact good_g (fun _ h => h) hf.2.1
    · exact good_g (fun _ h => h) hf.2.2.1
    · exact good_g (fun _ h => h) hf.2.2.2.1
  · exact good_cdsG hf.1 w h
theorem good_wsS {own : String} {index n : Nat} {y : MethodName} {bytes : ByteArray} {maxL : Nat} {ret : Option FieldType} (hf : CSf y bytes maxL ret n) (hl : Cond.methodLink own index y ∈ lw_g) : GoodIn lw_g (va_wsS own index y (cds y bytes maxL ret)) := by
  intro w hw
  rcases List.mem_append.mp hw with h | h
  · simp only [List.mem_cons, List.not_mem_nil, or_false] at h
    rcases h with rfl | rfl | rfl
    · exact good_g (fun _ h => h) hl
    · exact good_g (fun _ h => h) hf.2.1
    · exact good_g (fun _ h => h) hf.2.2.1
  · exact good_cdsG hf.1 w h
section G2
variable {p : Program} {l : Launch} {e : Env} {s : State} {m : MethodId} {args : Array Value} {below : List Frame} {meth : Method} {c : Code} {H : Heap} {locs : List Loc} {d : Nat} {Q : State → Prop}
variable {cc : ByteArray} {pc nL : Nat} {ls : Array Slot} {rest : List Value} {D : va_G} {A : Nat → Prop} {cy : Nat → ClassId} {own : String} {N : Nat} {ad : Nat → Nat} {C : CF} {M M' : Mem}
theorem isO.recv (X : Cx p s m args c cc nL own D cy) (hW : Wd D N ad C A s.heap M H locs) {k : Nat} {Cn : String} (h : isO C N k Cn) : ∃ cell : Cell, H[ad k]? = some cell ∧ cell.vm.isStatics = false ∧ s.vm.findClass Cn = some cell.cls := by
  obtain ⟨hk, ci, q, h1, h2, h3⟩ := h
  obtain ⟨fs, h4⟩ := h3 (M.1 k) (M.2 k)
  rw [← h2]
  exact va_recv X.2.2.2.2.2.1 hW.1 h1 (q0 := k) (by rw [WS_get hk, h4])

theorem g_calliV (X : Cx p s m args c cc nL own D cy) (hl : ls.size = nL) (hZ : SZ A s s.heap) (hA : ∀ q, s.heap.size ≤ q → A q) (hW : Wd D N ad C A s.heap M H locs) {r : Int32} {y : MethodName} {bytes : ByteArray} {maxL dc n index : Nat} {ret : Option FieldType} {As st : List Value} {k : Nat} {Cn : String} (hM : MetX l N C D cy ad y bytes maxL ret dc (.ref (ad k) :: As) M (fun A => QI r M' N C D cy ad A)) (hf : CWf y bytes maxL ret Cn n) (hlk : Cond.methodLink own index y ∈ lw_g) (ho : isO C N k Cn) (hn : As.length = n) (hR : dc + 1 ≤ d ∧ 8 + (maxL + 11) + 40 * dc ≤ 40 * d) (hst : st = As.reverse ++ .ref (ad k) :: rest) (hrs : (rest.map fun v => v.category).sum ≤ 8) (hdg : decode cc pc = .ok (.invokevirtual index, 3))
    (kk : ∀ (H1 : Heap) (locs1 : List Loc), Wd D N ad C A s.heap M' H1 locs1 → W p l e (rmD d) s m args below meth c H1 locs1 0 0 Q (F0 m (pc + 3) ls (.int r :: rest))) : W p l e (rmD d) s m args below meth c H locs 0 0 Q (F0 m pc ls st) := by
  subst hst
  refine va_calli (va_runV (As := As) (rest := rest) (b := ad k) ⟨X.1, X.2.1, X.2.2.1, X.2.2.2.1, X.2.2.2.2.1⟩ (hM H.size) (cwV n X.2.2.2.2.1 (good_wsV hf hlk) rfl rfl rfl ⟨hf.2.2.2.2.1, hf.2.2.2.2.2.1, hf.2.2.2.2.2.2.1, hf.2.2.2.2.2.2.2⟩ hR) ⟨fun a U g mk q => PreW.calls a q, ho.recv X hW, fun U hU hw => ⟨rfl, hW.pre X hZ hA hU hw⟩⟩ rfl hn hl rfl (lv_room hrs) hdg ⟨Nat.le_refl _, Nat.le_refl _⟩) hW.2.2 (fun q _ h => hW.free hA q h) (hW.free hA) (fun r1 u t H1 locs1 ht hvm hw hB hz1 hk1 hS => ?_)
  obtain ⟨rfl, rfl⟩ := hw
  exact kk H1 locs1 (hW.back hA ht hB hS)
theorem g_calliN (X : Cx p s m args c cc nL own D cy) (hl : ls.size = nL) (hZ : SZ A s s.heap) (hA : ∀ q, s.heap.size ≤ q → A q) (hW : Wd D N ad C A s.heap M H locs) {r : Int32} {y : MethodName} {bytes : ByteArray} {maxL dc n index : Nat} {ret : Option FieldType} {As st : List Value} {k : Nat} {Cn host : String} (hM : MetX l N C D cy ad y bytes maxL ret dc (.ref (ad k) :: As) M (fun A => QI r M' N C D cy ad A)) (hf : CWf y bytes maxL ret Cn n) (hlk : (own, index, y, host) ∈ nestM) (ho : isO C N k Cn) (hn : As.length = n) (hR : dc + 1 ≤ d ∧ 8 + (maxL + 11) + 40 * dc ≤ 40 * d) (hst : st = As.reverse ++ .ref (ad k) :: rest) (hrs : (rest.map fun v => v.category).sum ≤ 8) (hdg : decode cc pc = .ok (.invokevirtual index, 3))
    (kk : ∀ (H1 : Heap) (locs1 : List Loc), Wd D N ad C A s.heap M' H1 locs1 → W p l e (rmD d) s m args below meth c H1 locs1 0 0 Q (F0 m (pc + 3) ls (.int r :: rest))) : W p l e (rmD d) s m args below meth c H locs 0 0 Q (F0 m pc ls st) := by
  subst hst
  refine va_calli (va_runVN (As := As) (rest := rest) (b := ad k) (C := Cn) (host := host) ⟨X.1, X.2.1, X.2.2.1, X.2.2.2.1, X.2.2.2.2.1⟩ (hM H.size) ⟨va_cnB n X.2.2.2.2.1 (good_cdsG hf.1) rfl rfl rfl (X.2.2.2.2.2.2.2 _ hlk) (by have h := X.2.2.2.2.1 _ hf.2.2.2.1; rw [← hf.2.2.2.2.1] at h; exact h) ⟨hf.2.2.2.2.2.1, hf.2.2.2.2.2.2.1, hf.2.2.2.2.2.2.2⟩ hR, X.2.2.2.2.1 _ hf.2.1, X.2.2.2.2.1 _ hf.2.2.1⟩ ⟨fun a U g mk q => PreW.calls a q, ho.recv X hW, fun U hU hw => ⟨rfl, hW.pre X hZ hA hU hw⟩⟩ rfl hn hl rfl (lv_room hrs) hdg ⟨Nat.le_refl _, Nat.le_refl _⟩) hW.2.2 (fun q _ h => hW.free hA q h) (hW.free hA) (fun r1 u t H1 locs1 ht hvm hw hB hz1 hk1 hS => ?_)
  obtain ⟨rfl, rfl⟩ := hw
  exact kk H1 locs1 (hW.back hA ht hB hS)
theorem g_calliS (X : Cx p s m args c cc nL own D cy) (hl : ls.size = nL) (hZ : SZ A s s.heap) (hA : ∀ q, s.heap.size ≤ q → A q) (hW : Wd D N ad C A s.heap M H locs) {r : Int32} {y : MethodName} {bytes : ByteArray} {maxL dc n index : Nat} {ret : Option FieldType} {As st : List Value} (hM : MetX l N C D cy ad y bytes maxL ret dc As M (fun A => QI r M' N C D cy ad A)) (hf : CSf y bytes maxL ret n) (hlk : Cond.methodLink own index y ∈ lw_g) (hn : As.length = n) (hR : dc + 1 ≤ d ∧ 8 + (maxL + 11) + 40 * dc ≤ 40 * d) (hst : st = As.reverse ++ rest) (hrs : (rest.map fun v => v.category).sum ≤ 8) (hdg : decode cc pc = .ok (.invokestatic index, 3))
    (kk : ∀ (H1 : Heap) (locs1 : List Loc), Wd D N ad C A s.heap M' H1 locs1 → W p l e (rmD d) s m args below meth c H1 locs1 0 0 Q (F0 m (pc + 3) ls (.int r :: rest))) : W p l e (rmD d) s m args below meth c H locs 0 0 Q (F0 m pc ls st) := by
  subst hst
  refine va_calli (va_runS (As := As) (rest := rest) ⟨X.1, X.2.1, X.2.2.1, X.2.2.2.1, X.2.2.2.2.1⟩ (hM H.size) (va_cwS n X.2.2.2.2.1 (good_wsS hf hlk) rfl rfl rfl ⟨hf.2.2.2.1, hf.2.2.2.2.1, hf.2.2.2.2.2⟩ hR) ⟨fun a U g mk q => PreW.calls a q, fun U hU hw => ⟨rfl, hW.pre X hZ hA hU hw⟩⟩ rfl hn hl rfl (lv_room hrs) hdg ⟨Nat.le_refl _, Nat.le_refl _⟩) hW.2.2 (fun q _ h => hW.free hA q h) (hW.free hA) (fun r1 u t H1 locs1 ht hvm hw hB hz1 hk1 hS => ?_)
  obtain ⟨rfl, rfl⟩ := hw
  exact kk H1 locs1 (hW.back hA ht hB hS)
theorem g_calllV (X : Cx p s m args c cc nL own D cy) (hl : ls.size = nL) (hZ : SZ A s s.heap) (hA : ∀ q, s.heap.size ≤ q → A q) (hW : Wd D N ad C A s.heap M H locs) {r : Int64} {y : MethodName} {bytes : ByteArray} {maxL dc n index : Nat} {ret : Option FieldType} {As st : List Value} {k : Nat} {Cn : String} (hM : MetX l N C D cy ad y bytes maxL ret dc (.ref (ad k) :: As) M (fun A => QL r M' N C D cy ad A)) (hf : CWf y bytes maxL ret Cn n) (hlk : Cond.methodLink own index y ∈ lw_g) (ho : isO C N k Cn) (hn : As.length = n) (hR : dc + 1 ≤ d ∧ 8 + (maxL + 11) + 40 * dc ≤ 40 * d) (hst : st = As.reverse ++ .ref (ad k) :: rest) (hrs : (rest.map fun v => v.category).sum ≤ 8) (hdg : decode cc pc = .ok (.invokevirtual index, 3))
    (kk : ∀ (H1 : Heap) (locs1 : List Loc), Wd D N ad C A s.heap M' H1 locs1 → W p l e (rmD d) s m args below meth c H1 locs1 0 0 Q (F0 m (pc + 3) ls (.long r :: rest))) : W p l e (rmD d) s m args below meth c H locs 0 0 Q (F0 m pc ls st) := by
  subst hst
  refine va_calll (va_runV (As := As) (rest := rest) (b := ad k) ⟨X.1, X.2.1, X.2.2.1, X.2.2.2.1, X.2.2.2.2.1⟩ (hM H.size) (cwV n X.2.2.2.2.1 (good_wsV hf hlk) rfl rfl rfl ⟨hf.2.2.2.2.1, hf.2.2.2.2.2.1, hf.2.2.2.2.2.2.1, hf.2.2.2.2.2.2.2⟩ hR) ⟨fun a U g mk q => PreW.calls a q, ho.recv X hW, fun U hU hw => ⟨rfl, hW.pre X hZ hA hU hw⟩⟩ rfl hn hl rfl (lv_room hrs) hdg ⟨Nat.le_refl _, Nat.le_refl _⟩) hW.2.2 (fun q _ h => hW.free hA q h) (hW.free hA) (fun r1 u t H1 locs1 ht hvm hw hB hz1 hk1 hS => ?_)
  obtain ⟨rfl, rfl⟩ := hw
  exact kk H1 locs1 (hW.back hA ht hB hS)
theorem g_calllN (X : Cx p s m args c cc nL own D cy) (hl : ls.size = nL) (hZ : SZ A s s.heap) (hA : ∀ q, s.heap.size ≤ q → A q) (hW : Wd D N ad C A s.heap M H locs) {r : Int64} {y : MethodName} {bytes : ByteArray} {maxL dc n index : Nat} {ret : Option FieldType} {As st : List Value} {k : Nat} {Cn host : String} (hM : MetX l N C D cy ad y bytes maxL ret dc (.ref (ad k) :: As) M (fun A => QL r M' N C D cy ad A)) (hf : CWf y bytes maxL ret Cn n) (hlk : (own, index, y, host) ∈ nestM) (ho : isO C N k Cn) (hn : As.length = n) (hR : dc + 1 ≤ d ∧ 8 + (maxL + 11) + 40 * dc ≤ 40 * d) (hst : st = As.reverse ++ .ref (ad k) :: rest) (hrs : (rest.map fun v => v.category).sum ≤ 8) (hdg : decode cc pc = .ok (.invokevirtual index, 3))
    (kk : ∀ (H1 : Heap) (locs1 : List Loc), Wd D N ad C A s.heap M' H1 locs1 → W p l e (rmD d) s m args below meth c H1 locs1 0 0 Q (F0 m (pc + 3) ls (.long r :: rest))) : W p l e (rmD d) s m args below meth c H locs 0 0 Q (F0 m pc ls st) := by
  subst hst
  refine va_calll (va_runVN (As := As) (rest := rest) (b := ad k) (C := Cn) (host := host) ⟨X.1, X.2.1, X.2.2.1, X.2.2.2.1, X.2.2.2.2.1⟩ (hM H.size) ⟨va_cnB n X.2.2.2.2.1 (good_cdsG hf.1) rfl rfl rfl (X.2.2.2.2.2.2.2 _ hlk) (by have h := X.2.2.2.2.1 _ hf.2.2.2.1; rw [← hf.2.2.2.2.1] at h; exact h) ⟨hf.2.2.2.2.2.1, hf.2.2.2.2.2.2.1, hf.2.2.2.2.2.2.2⟩ hR, X.2.2.2.2.1 _ hf.2.1, X.2.2.2.2.1 _ hf.2.2.1⟩ ⟨fun a U g mk q => PreW.calls a q, ho.recv X hW, fun U hU hw => ⟨rfl, hW.pre X hZ hA hU hw⟩⟩ rfl hn hl rfl (lv_room hrs) hdg ⟨Nat.le_refl _, Nat.le_refl _⟩) hW.2.2 (fun q _ h => hW.free hA q h) (hW.free hA) (fun r1 u t H1 locs1 ht hvm hw hB hz1 hk1 hS => ?_)
  obtain ⟨rfl, rfl⟩ := hw
  exact kk H1 locs1 (hW.back hA ht hB hS)
theorem g_calllS (X : Cx p s m args c cc nL own D cy) (hl : ls.size = nL) (hZ : SZ A s s.heap) (hA : ∀ q, s.heap.size ≤ q → A q) (hW : Wd D N ad C A s.heap M H locs) {r : Int64} {y : MethodName} {bytes : ByteArray} {maxL dc n index : Nat} {ret : Option FieldType} {As st : List Value} (hM : MetX l N C D cy ad y bytes maxL ret dc As M (fun A => QL r M' N C D cy ad A)) (hf : CSf y bytes maxL ret n) (hlk : Cond.methodLink own index y ∈ lw_g) (hn : As.length = n) (hR : dc + 1 ≤ d ∧ 8 + (maxL + 11) + 40 * dc ≤ 40 * d) (hst : st = As.reverse ++ rest) (hrs : (rest.map fun v => v.category).sum ≤ 8) (hdg : decode cc pc = .ok (.invokestatic index, 3))
    (kk : ∀ (H1 : Heap) (locs1 : List Loc), Wd D N ad C A s.heap M' H1 locs1 → W p l e (rmD d) s m args below meth c H1 locs1 0 0 Q (F0 m (pc + 3) ls (.long r :: rest))) : W p l e (rmD d) s m args below meth c H locs 0 0 Q (F0 m pc ls st) := by
  subst hst
  refine va_calll (va_runS (As := As) (rest := rest) ⟨X.1, X.2.1, X.2.2.1, X.2.2.2.1, X.2.2.2.2.1⟩ (hM H.size) (va_cwS n X.2.2.2.2.1 (good_wsS hf hlk) rfl rfl rfl ⟨hf.2.2.2.1, hf.2.2.2.2.1, hf.2.2.2.2.2⟩ hR) ⟨fun a U g mk q => PreW.calls a q, fun U hU hw => ⟨rfl, hW.pre X hZ hA hU hw⟩⟩ rfl hn hl rfl (lv_room hrs) hdg ⟨Nat.le_refl _, Nat.le_refl _⟩) hW.2.2 (fun q _ h => hW.free hA q h) (hW.free hA) (fun r1 u t H1 locs1 ht hvm hw hB hz1 hk1 hS => ?_)
  obtain ⟨rfl, rfl⟩ := hw
  exact kk H1 locs1 (hW.back hA ht hB hS)
theorem g_callvV (X : Cx p s m args c cc nL own D cy) (hl : ls.size = nL) (hZ : SZ A s s.heap) (hA : ∀ q, s.heap.size ≤ q → A q) (hW : Wd D N ad C A s.heap M H locs) {y : MethodName} {bytes : ByteArray} {maxL dc n index : Nat} {ret : Option FieldType} {As st : List Value} {k : Nat} {Cn : String} (hM : MetX l N C D cy ad y bytes maxL ret dc (.ref (ad k) :: As) M (fun A => QV M' N C D cy ad A)) (hf : CWf y bytes maxL ret Cn n) (hlk : Cond.methodLink own index y ∈ lw_g) (ho : isO C N k Cn) (hn : As.length = n) (hR : dc + 1 ≤ d ∧ 8 + (maxL + 11) + 40 * dc ≤ 40 * d) (hst : st = As.reverse ++ .ref (ad k) :: rest) (hrs : (rest.map fun v => v.category).sum ≤ 8) (hdg : decode cc pc = .ok (.invokevirtual index, 3))
    (kk : ∀ (H1 : Heap) (locs1 : List Loc), Wd D N ad C A s.heap M' H1 locs1 → W p l e (rmD d) s m args below meth c H1 locs1 0 0 Q (F0 m (pc + 3) ls (rest))) : W p l e (rmD d) s m args below meth c H locs 0 0 Q (F0 m pc ls st) := by
  subst hst
  refine va_callv (va_runV (As := As) (rest := rest) (b := ad k) ⟨X.1, X.2.1, X.2.2.1, X.2.2.2.1, X.2.2.2.2.1⟩ (hM H.size) (cwV n X.2.2.2.2.1 (good_wsV hf hlk) rfl rfl rfl ⟨hf.2.2.2.2.1, hf.2.2.2.2.2.1, hf.2.2.2.2.2.2.1, hf.2.2.2.2.2.2.2⟩ hR) ⟨fun a U g mk q => PreW.calls a q, ho.recv X hW, fun U hU hw => ⟨rfl, hW.pre X hZ hA hU hw⟩⟩ rfl hn hl rfl (lv_room hrs) hdg ⟨Nat.le_refl _, Nat.le_refl _⟩) hW.2.2 (fun q _ h => hW.free hA q h) (hW.free hA) (fun u t H1 locs1 ht hvm hw hB hz1 hk1 hS => ?_)
  subst hw
  exact kk H1 locs1 (hW.back hA ht hB hS)
theorem g_callvN (X : Cx p s m args c cc nL own D cy) (hl : ls.size = nL) (hZ : SZ A s s.heap) (hA : ∀ q, s.heap.size ≤ q → A q) (hW : Wd D N ad C A s.heap M H locs) {y : MethodName} {bytes : ByteArray} {maxL dc n index : Nat} {ret : Option FieldType} {As st : List Value} {k : Nat} {Cn host : String} (hM : MetX l N C D cy ad y bytes maxL ret dc (.ref (ad k) :: As) M (fun A => QV M' N C D cy ad A)) (hf : CWf y bytes maxL ret Cn n) (hlk : (own, index, y, host) ∈ nestM) (ho : isO C N k Cn) (hn : As.length = n) (hR : dc + 1 ≤ d ∧ 8 + (maxL + 11) + 40 * dc ≤ 40 * d) (hst : st = As.reverse ++ .ref (ad k) :: rest) (hrs : (rest.map fun v => v.category).sum ≤ 8) (hdg : decode cc pc = .ok (.invokevirtual index, 3))
    (kk : ∀ (H1 : Heap) (locs1 : List Loc), Wd D N ad C A s.heap M' H1 locs1 → W p l e (rmD d) s m args below meth c H1 locs1 0 0 Q (F0 m (pc + 3) ls (rest))) : W p l e (rmD d) s m args below meth c H locs 0 0 Q (F0 m pc ls st) := by
  subst hst
  refine va_callv (va_runVN (As := As) (rest := rest) (b := ad k) (C := Cn) (host := host) ⟨X.1, X.2.1, X.2.2.1, X.2.2.2.1, X.2.2.2.2.1⟩ (hM H.size) ⟨va_cnB n X.2.2.2.2.1 (good_cdsG hf.1) rfl rfl rfl (X.2.2.2.2.2.2.2 _ hlk) (by have h := X.2.2.2.2.1 _ hf.2.2.2.1; rw [← hf.2.2.2.2.1] at h; exact h) ⟨hf.2.2.2.2.2.1, hf.2.2.2.2.2.2.1, hf.2.2.2.2.2.2.2⟩ hR, X.2.2.2.2.1 _ hf.2.1, X.2.2.2.2.1 _ hf.2.2.1⟩ ⟨fun a U g mk q => PreW.calls a q, ho.recv X hW, fun U hU hw => ⟨rfl, hW.pre X hZ hA hU hw⟩⟩ rfl hn hl rfl (lv_room hrs) hdg ⟨Nat.le_refl _, Nat.le_refl _⟩) hW.2.2 (fun q _ h => hW.free hA q h) (hW.free hA) (fun u t H1 locs1 ht hvm hw hB hz1 hk1 hS => ?_)
  subst hw
  exact kk H1 locs1 (hW.back hA ht hB hS)
theorem g_callvS (X : Cx p s m args c cc nL own D cy) (hl : ls.size = nL) (hZ : SZ A s s.heap) (hA : ∀ q, s.heap.size ≤ q → A q) (hW : Wd D N ad C A s.heap M H locs) {y : MethodName} {bytes : ByteArray} {maxL dc n index : Nat} {ret : Option FieldType} {As st : List Value} (hM : MetX l N C D cy ad y bytes maxL ret dc As M (fun A => QV M' N C D cy ad A)) (hf : CSf y bytes maxL ret n) (hlk : Cond.methodLink own index y ∈ lw_g) (hn : As.length = n) (hR : dc + 1 ≤ d ∧ 8 + (maxL + 11) + 40 * dc ≤ 40 * d) (hst : st = As.reverse ++ rest) (hrs : (rest.map fun v => v.category).sum ≤ 8) (hdg : decode cc pc = .ok (.invokestatic index, 3))
    (kk : ∀ (H1 : Heap) (locs1 : List Loc), Wd D N ad C A s.heap M' H1 locs1 → W p l e (rmD d) s m args below meth c H1 locs1 0 0 Q (F0 m (pc + 3) ls (rest))) : W p l e (rmD d) s m args below meth c H locs 0 0 Q (F0 m pc ls st) := by
  subst hst
  refine va_callv (va_runS (As := As) (rest := rest) ⟨X.1, X.2.1, X.2.2.1, X.2.2.2.1, X.2.2.2.2.1⟩ (hM H.size) (va_cwS n X.2.2.2.2.1 (good_wsS hf hlk) rfl rfl rfl ⟨hf.2.2.2.1, hf.2.2.2.2.1, hf.2.2.2.2.2⟩ hR) ⟨fun a U g mk q => PreW.calls a q, fun U hU hw => ⟨rfl, hW.pre X hZ hA hU hw⟩⟩ rfl hn hl rfl (lv_room hrs) hdg ⟨Nat.le_refl _, Nat.le_refl _⟩) hW.2.2 (fun q _ h => hW.free hA q h) (hW.free hA) (fun u t H1 locs1 ht hvm hw hB hz1 hk1 hS => ?_)
  subst hw
  exact kk H1 locs1 (hW.back hA ht hB hS)
end G2
end
section
/-! the words by their places; the worlds of the class and of the reference -/
theorem in_g (ws : List Cond) (ps : List Nat) (hp : ws = ps.filterMap (fun i => lw_tbl[i]?)) (h : ws.all goodWord = true) : ∀ w ∈ ws, w ∈ lw_g := by
  intro w hw
  have h1 := List.all_eq_true.mp h w hw
  rw [hp] at hw
  obtain ⟨i, -, hi⟩ := List.mem_filterMap.mp hw
  exact mem_g hi h1
theorem inX0g : ∀ w ∈ u_ws RX0 TX0 8, w ∈ lw_g := in_g _ [120, 122, 124, 126, 128, 130, 132, 134] (by decide +kernel) (by decide +kernel)
theorem inX1g : ∀ w ∈ u_ws RX1 TX1 16, w ∈ lw_g := in_g _ [155, 157, 159, 161, 163, 165, 167, 169, 171, 173, 175, 177, 179, 181, 183, 185] (by decide +kernel) (by decide +kernel)
theorem inX2g : ∀ w ∈ u_ws RX2 TX2 26, w ∈ lw_g := in_g _ [624, 626, 628, 630, 632, 634, 636, 638, 640, 642, 644, 646, 648, 650, 652, 654, 656, 658, 660, 662, 664, 666, 668, 670, 672, 674] (by decide +kernel) (by decide +kernel)
theorem ql_L_9 : Cond.methodLink RL 9 yX1_init ∈ lw_g := mem_g (i := 90) (by decide +kernel) (by decide +kernel)
theorem ql_L_13 : Cond.methodLink RL 13 yX1_row ∈ lw_g := mem_g (i := 188) (by decide +kernel) (by decide +kernel)
theorem ql_X1_68 : Cond.methodLink RX1 68 yX1_isRow ∈ lw_g := mem_g (i := 192) (by decide +kernel) (by decide +kernel)
theorem ql_X1_114 : Cond.methodLink RX1 114 yX1_isWithin ∈ lw_g := mem_g (i := 195) (by decide +kernel) (by decide +kernel)
theorem ql_X1_72 : Cond.methodLink RX1 72 yX1_refuse ∈ lw_g := mem_g (i := 198) (by decide +kernel) (by decide +kernel)
theorem ql_X1_76 : Cond.methodLink RX1 76 yX1_makeRow ∈ lw_g := mem_g (i := 202) (by decide +kernel) (by decide +kernel)
theorem ql_L_18 : Cond.methodLink RL 18 yX1_lay ∈ lw_g := mem_g (i := 206) (by decide +kernel) (by decide +kernel)
theorem ql_X1_80 : Cond.methodLink RX1 80 yX1_lookForPlace ∈ lw_g := mem_g (i := 210) (by decide +kernel) (by decide +kernel)
theorem ql_L_23 : Cond.methodLink RL 23 yX1_at ∈ lw_g := mem_g (i := 213) (by decide +kernel) (by decide +kernel)
theorem ql_L_27 : Cond.methodLink RL 27 yX1_tear ∈ lw_g := mem_g (i := 217) (by decide +kernel) (by decide +kernel)
theorem ql_L_32 : Cond.methodLink RL 32 yX1_copy ∈ lw_g := mem_g (i := 221) (by decide +kernel) (by decide +kernel)
theorem ql_X1_84 : Cond.methodLink RX1 84 yX1_hasPlaces ∈ lw_g := mem_g (i := 225) (by decide +kernel) (by decide +kernel)
theorem ql_X1_88 : Cond.methodLink RX1 88 arraycopyName ∈ lw_g := mem_g (i := 228) (by decide +kernel) (by decide +kernel)
theorem ql_L_37 : Cond.methodLink RL 37 yX1_mean ∈ lw_g := mem_g (i := 231) (by decide +kernel) (by decide +kernel)
theorem ql_L_41 : Cond.methodLink RL 41 yX1_text ∈ lw_g := mem_g (i := 235) (by decide +kernel) (by decide +kernel)
theorem ql_X1_94 : Cond.methodLink RX1 94 yX1_isText ∈ lw_g := mem_g (i := 239) (by decide +kernel) (by decide +kernel)
theorem ql_L_45 : Cond.methodLink RL 45 yX1_put ∈ lw_g := mem_g (i := 242) (by decide +kernel) (by decide +kernel)
theorem ql_L_49 : Cond.methodLink RL 49 yX1_fault ∈ lw_g := mem_g (i := 246) (by decide +kernel) (by decide +kernel)
theorem ql_X0_37 : Cond.methodLink RX0 37 yX0_takeSign ∈ lw_g := mem_g (i := 254) (by decide +kernel) (by decide +kernel)
theorem ql_X0_41 : Cond.methodLink RX0 41 yX0_kindOf ∈ lw_g := mem_g (i := 258) (by decide +kernel) (by decide +kernel)
theorem ql_L_53 : Cond.methodLink RL 53 yX1_store ∈ lw_g := mem_g (i := 263) (by decide +kernel) (by decide +kernel)
theorem ql_X0_49 : Cond.methodLink RX0 49 arraycopyName ∈ lw_g := mem_g (i := 275) (by decide +kernel) (by decide +kernel)
theorem ql_L_57 : Cond.methodLink RL 57 yX1_tube ∈ lw_g := mem_g (i := 276) (by decide +kernel) (by decide +kernel)
theorem ql_X0_65 : Cond.methodLink RX0 65 yX0_isReady ∈ lw_g := mem_g (i := 288) (by decide +kernel) (by decide +kernel)
theorem ql_X0_78 : Cond.methodLink RX0 78 yX0_cameTo ∈ lw_g := mem_g (i := 292) (by decide +kernel) (by decide +kernel)
theorem ql_X0_62 : Cond.methodLink RX0 62 yX0_comesOut ∈ lw_g := mem_g (i := 296) (by decide +kernel) (by decide +kernel)
theorem ql_X0_68 : Cond.methodLink RX0 68 yX0_sentAs ∈ lw_g := mem_g (i := 300) (by decide +kernel) (by decide +kernel)
theorem ql_X0_75 : Cond.methodLink RX0 75 yX0_isStruck ∈ lw_g := mem_g (i := 304) (by decide +kernel) (by decide +kernel)
theorem ql_X0_72 : Cond.methodLink RX0 72 yX0_ticksTillStruck ∈ lw_g := mem_g (i := 308) (by decide +kernel) (by decide +kernel)
theorem ql_L_61 : Cond.methodLink RL 61 yX1_mark ∈ lw_g := mem_g (i := 312) (by decide +kernel) (by decide +kernel)
theorem ql_L_65 : Cond.methodLink RL 65 yX1_tick ∈ lw_g := mem_g (i := 324) (by decide +kernel) (by decide +kernel)
theorem ql_X1_130 : Cond.methodLink RX1 130 yX1_hasRoomFor ∈ lw_g := mem_g (i := 328) (by decide +kernel) (by decide +kernel)
theorem ql_X1_133 : Cond.methodLink RX1 133 yX1_addDeed ∈ lw_g := mem_g (i := 332) (by decide +kernel) (by decide +kernel)
theorem ql_X1_231 : Cond.methodLink RX1 231 yX1_perform ∈ lw_g := mem_g (i := 336) (by decide +kernel) (by decide +kernel)
theorem ql_X0_55 : Cond.methodLink RX0 55 yX0_letPass ∈ lw_g := mem_g (i := 344) (by decide +kernel) (by decide +kernel)
theorem ql_X0_58 : Cond.methodLink RX0 58 yX0_has ∈ lw_g := mem_g (i := 348) (by decide +kernel) (by decide +kernel)
theorem ql_X0_81 : Cond.methodLink RX0 81 yJ6_bitCount_0f7a4 ∈ lw_g := mem_g (i := 365) (by decide +kernel) (by decide +kernel)
theorem ql_L_70 : Cond.methodLink RL 70 yX1_set ∈ lw_g := mem_g (i := 371) (by decide +kernel) (by decide +kernel)
theorem ql_L_74 : Cond.methodLink RL 74 yX1_swap ∈ lw_g := mem_g (i := 375) (by decide +kernel) (by decide +kernel)
theorem ql_L_78 : Cond.methodLink RL 78 yX1_word ∈ lw_g := mem_g (i := 379) (by decide +kernel) (by decide +kernel)
theorem ql_L_82 : Cond.methodLink RL 82 yX1_undo ∈ lw_g := mem_g (i := 387) (by decide +kernel) (by decide +kernel)
theorem ql_X1_153 : Cond.methodLink RX1 153 yX1_doAgain ∈ lw_g := mem_g (i := 391) (by decide +kernel) (by decide +kernel)
theorem ql_L_86 : Cond.methodLink RL 86 yX1_keep ∈ lw_g := mem_g (i := 395) (by decide +kernel) (by decide +kernel)
theorem ql_X1_156 : Cond.methodLink RX1 156 yX1_isPlaceToKeep ∈ lw_g := mem_g (i := 399) (by decide +kernel) (by decide +kernel)
theorem ql_L_90 : Cond.methodLink RL 90 yX1_on ∈ lw_g := mem_g (i := 402) (by decide +kernel) (by decide +kernel)
theorem ql_L_94 : Cond.methodLink RL 94 yX1_later ∈ lw_g := mem_g (i := 406) (by decide +kernel) (by decide +kernel)
theorem ql_L_98 : Cond.methodLink RL 98 yX1_hears ∈ lw_g := mem_g (i := 410) (by decide +kernel) (by decide +kernel)
theorem ql_L_102 : Cond.methodLink RL 102 yX1_finds ∈ lw_g := mem_g (i := 416) (by decide +kernel) (by decide +kernel)
theorem ql_L_106 : Cond.methodLink RL 106 yX1_round ∈ lw_g := mem_g (i := 420) (by decide +kernel) (by decide +kernel)
theorem ql_X1_169 : Cond.methodLink RX1 169 Lib.Math.min.name ∈ lw_g := mem_g (i := 424) (by decide +kernel) (by decide +kernel)
theorem ql_L_110 : Cond.methodLink RL 110 yX1_left ∈ lw_g := mem_g (i := 431) (by decide +kernel) (by decide +kernel)
theorem ql_X1_181 : Cond.methodLink RX1 181 yJ6_bitCount_0f7a4 ∈ lw_g := mem_g (i := 439) (by decide +kernel) (by decide +kernel)
theorem ql_L_114 : Cond.methodLink RL 114 yX1_best ∈ lw_g := mem_g (i := 440) (by decide +kernel) (by decide +kernel)
theorem ql_L_118 : Cond.methodLink RL 118 yX1_safest ∈ lw_g := mem_g (i := 444) (by decide +kernel) (by decide +kernel)
theorem ql_X1_189 : Cond.methodLink RX1 189 yX1_comesBack ∈ lw_g := mem_g (i := 448) (by decide +kernel) (by decide +kernel)
theorem ql_L_122 : Cond.methodLink RL 122 yX1_kinds ∈ lw_g := mem_g (i := 452) (by decide +kernel) (by decide +kernel)
theorem ql_X1_192 : Cond.methodLink RX1 192 yX1_lookThroughHeard ∈ lw_g := mem_g (i := 456) (by decide +kernel) (by decide +kernel)
theorem ql_X1_195 : Cond.methodLink RX1 195 yX1_kindsHeard ∈ lw_g := mem_g (i := 460) (by decide +kernel) (by decide +kernel)
theorem ql_X1_198 : Cond.methodLink RX1 198 yX1_isHeard ∈ lw_g := mem_g (i := 464) (by decide +kernel) (by decide +kernel)
theorem ql_L_126 : Cond.methodLink RL 126 yX1_words ∈ lw_g := mem_g (i := 468) (by decide +kernel) (by decide +kernel)
theorem ql_L_130 : Cond.methodLink RL 130 yX1_test ∈ lw_g := mem_g (i := 472) (by decide +kernel) (by decide +kernel)
theorem ql_X1_201 : Cond.methodLink RX1 201 yX1_lookAhead ∈ lw_g := mem_g (i := 476) (by decide +kernel) (by decide +kernel)
theorem ql_X1_204 : Cond.methodLink RX1 204 yX1_greatestPart ∈ lw_g := mem_g (i := 480) (by decide +kernel) (by decide +kernel)
theorem ql_X1_243 : Cond.methodLink RX1 243 Lib.Math.max.name ∈ lw_g := mem_g (i := 484) (by decide +kernel) (by decide +kernel)
theorem ql_L_134 : Cond.methodLink RL 134 yX1_duel ∈ lw_g := mem_g (i := 487) (by decide +kernel) (by decide +kernel)
theorem ql_X1_210 : Cond.methodLink RX1 210 yX1_playOut ∈ lw_g := mem_g (i := 495) (by decide +kernel) (by decide +kernel)
theorem ql_X1_246 : Cond.methodLink RX1 246 yX1_leftWithEnds ∈ lw_g := mem_g (i := 499) (by decide +kernel) (by decide +kernel)
theorem ql_L_138 : Cond.methodLink RL 138 yX1_odds ∈ lw_g := mem_g (i := 507) (by decide +kernel) (by decide +kernel)
theorem ql_X1_214 : Cond.methodLink RX1 214 yX1_tellChance ∈ lw_g := mem_g (i := 511) (by decide +kernel) (by decide +kernel)
theorem ql_X1_252 : Cond.methodLink RX1 252 yX1_weightOf ∈ lw_g := mem_g (i := 515) (by decide +kernel) (by decide +kernel)
theorem ql_X1_256 : Cond.methodLink RX1 256 yX1_leftWithout ∈ lw_g := mem_g (i := 519) (by decide +kernel) (by decide +kernel)
theorem ql_X1_261 : Cond.methodLink RX1 261 yX1_tellLowest ∈ lw_g := mem_g (i := 528) (by decide +kernel) (by decide +kernel)
theorem ql_L_142 : Cond.methodLink RL 142 yX1_mid ∈ lw_g := mem_g (i := 532) (by decide +kernel) (by decide +kernel)
theorem ql_L_146 : Cond.methodLink RL 146 yX1_lots ∈ lw_g := mem_g (i := 536) (by decide +kernel) (by decide +kernel)
theorem ql_X1_221 : Cond.methodLink RX1 221 yX1_doByLot ∈ lw_g := mem_g (i := 542) (by decide +kernel) (by decide +kernel)
theorem ql_L_150 : Cond.methodLink RL 150 yX1_asked ∈ lw_g := mem_g (i := 546) (by decide +kernel) (by decide +kernel)
theorem ql_L_154 : Cond.methodLink RL 154 yX1_upper ∈ lw_g := mem_g (i := 550) (by decide +kernel) (by decide +kernel)
theorem ql_L_159 : Cond.methodLink RL 159 yX1_lower ∈ lw_g := mem_g (i := 554) (by decide +kernel) (by decide +kernel)
theorem ql_L_163 : Cond.methodLink RL 163 yX1_count ∈ lw_g := mem_g (i := 558) (by decide +kernel) (by decide +kernel)
theorem ql_X1_224 : Cond.methodLink RX1 224 yX1_countOf ∈ lw_g := mem_g (i := 562) (by decide +kernel) (by decide +kernel)
theorem ql_X1_271 : Cond.methodLink RX1 271 yX1_present ∈ lw_g := mem_g (i := 570) (by decide +kernel) (by decide +kernel)
theorem ql_X0_86 : Cond.methodLink RX0 86 yX0_isOf ∈ lw_g := mem_g (i := 577) (by decide +kernel) (by decide +kernel)
theorem ql_L_167 : Cond.methodLink RL 167 yX1_finding ∈ lw_g := mem_g (i := 578) (by decide +kernel) (by decide +kernel)
theorem ql_L_171 : Cond.methodLink RL 171 yX1_findings ∈ lw_g := mem_g (i := 582) (by decide +kernel) (by decide +kernel)
theorem ql_L_175 : Cond.methodLink RL 175 yX1_digest ∈ lw_g := mem_g (i := 586) (by decide +kernel) (by decide +kernel)
theorem ql_L_12 : Cond.methodLink RL 12 yX2_init ∈ lw_g := mem_g (i := 594) (by decide +kernel) (by decide +kernel)
theorem ql_L_17 : Cond.methodLink RL 17 yX2_row ∈ lw_g := mem_g (i := 678) (by decide +kernel) (by decide +kernel)
theorem ql_X2_86 : Cond.methodLink RX2 86 yX2_isRow ∈ lw_g := mem_g (i := 682) (by decide +kernel) (by decide +kernel)
theorem ql_X2_82 : Cond.methodLink RX2 82 yX2_in ∈ lw_g := mem_g (i := 685) (by decide +kernel) (by decide +kernel)
theorem ql_X2_90 : Cond.methodLink RX2 90 yX2_found ∈ lw_g := mem_g (i := 688) (by decide +kernel) (by decide +kernel)
theorem ql_X2_94 : Cond.methodLink RX2 94 yX2_makesRow ∈ lw_g := mem_g (i := 692) (by decide +kernel) (by decide +kernel)
theorem ql_L_22 : Cond.methodLink RL 22 yX2_lay ∈ lw_g := mem_g (i := 696) (by decide +kernel) (by decide +kernel)
theorem ql_X2_98 : Cond.methodLink RX2 98 yX2_placeOf ∈ lw_g := mem_g (i := 700) (by decide +kernel) (by decide +kernel)
theorem ql_X2_102 : Cond.methodLink RX2 102 yX2_tells ∈ lw_g := mem_g (i := 704) (by decide +kernel) (by decide +kernel)
theorem ql_L_26 : Cond.methodLink RL 26 yX2_at ∈ lw_g := mem_g (i := 708) (by decide +kernel) (by decide +kernel)
theorem ql_L_31 : Cond.methodLink RL 31 yX2_tear ∈ lw_g := mem_g (i := 712) (by decide +kernel) (by decide +kernel)
theorem ql_L_36 : Cond.methodLink RL 36 yX2_copy ∈ lw_g := mem_g (i := 716) (by decide +kernel) (by decide +kernel)
theorem ql_L_40 : Cond.methodLink RL 40 yX2_mean ∈ lw_g := mem_g (i := 720) (by decide +kernel) (by decide +kernel)
theorem ql_L_44 : Cond.methodLink RL 44 yX2_text ∈ lw_g := mem_g (i := 724) (by decide +kernel) (by decide +kernel)
theorem ql_X2_105 : Cond.methodLink RX2 105 yX2_isText ∈ lw_g := mem_g (i := 728) (by decide +kernel) (by decide +kernel)
theorem ql_L_48 : Cond.methodLink RL 48 yX2_put ∈ lw_g := mem_g (i := 731) (by decide +kernel) (by decide +kernel)
theorem ql_L_52 : Cond.methodLink RL 52 yX2_fault ∈ lw_g := mem_g (i := 735) (by decide +kernel) (by decide +kernel)
theorem ql_X2_114 : Cond.methodLink RX2 114 yX2_reading ∈ lw_g := mem_g (i := 739) (by decide +kernel) (by decide +kernel)
theorem ql_X2_111 : Cond.methodLink RX2 111 yX2_kindBy ∈ lw_g := mem_g (i := 743) (by decide +kernel) (by decide +kernel)
theorem ql_L_56 : Cond.methodLink RL 56 yX2_store ∈ lw_g := mem_g (i := 746) (by decide +kernel) (by decide +kernel)
theorem ql_X2_117 : Cond.methodLink RX2 117 yX2_bring ∈ lw_g := mem_g (i := 750) (by decide +kernel) (by decide +kernel)
theorem ql_L_60 : Cond.methodLink RL 60 yX2_tube ∈ lw_g := mem_g (i := 753) (by decide +kernel) (by decide +kernel)
theorem ql_X2_145 : Cond.methodLink RX2 145 yX2_isTube ∈ lw_g := mem_g (i := 757) (by decide +kernel) (by decide +kernel)
theorem ql_X2_128 : Cond.methodLink RX2 128 yX2_isReady ∈ lw_g := mem_g (i := 761) (by decide +kernel) (by decide +kernel)
theorem ql_X2_148 : Cond.methodLink RX2 148 yX2_sentNow ∈ lw_g := mem_g (i := 765) (by decide +kernel) (by decide +kernel)
theorem ql_X2_131 : Cond.methodLink RX2 131 yX2_fromWhich ∈ lw_g := mem_g (i := 769) (by decide +kernel) (by decide +kernel)
theorem ql_X2_135 : Cond.methodLink RX2 135 yX2_outOf ∈ lw_g := mem_g (i := 773) (by decide +kernel) (by decide +kernel)
theorem ql_X2_138 : Cond.methodLink RX2 138 yX2_sentBy ∈ lw_g := mem_g (i := 777) (by decide +kernel) (by decide +kernel)
theorem ql_X2_124 : Cond.methodLink RX2 124 yX2_isMarked ∈ lw_g := mem_g (i := 781) (by decide +kernel) (by decide +kernel)
theorem ql_L_64 : Cond.methodLink RL 64 yX2_mark ∈ lw_g := mem_g (i := 785) (by decide +kernel) (by decide +kernel)
theorem ql_X2_151 : Cond.methodLink RX2 151 yX2_isA ∈ lw_g := mem_g (i := 789) (by decide +kernel) (by decide +kernel)
theorem ql_L_69 : Cond.methodLink RL 69 yX2_tick ∈ lw_g := mem_g (i := 793) (by decide +kernel) (by decide +kernel)
theorem ql_X2_155 : Cond.methodLink RX2 155 yX2_notes ∈ lw_g := mem_g (i := 797) (by decide +kernel) (by decide +kernel)
theorem ql_X2_158 : Cond.methodLink RX2 158 yX2_tickOn ∈ lw_g := mem_g (i := 801) (by decide +kernel) (by decide +kernel)
theorem ql_X2_162 : Cond.methodLink RX2 162 yX2_pulses ∈ lw_g := mem_g (i := 805) (by decide +kernel) (by decide +kernel)
theorem ql_X2_142 : Cond.methodLink RX2 142 yX2_bits ∈ lw_g := mem_g (i := 809) (by decide +kernel) (by decide +kernel)
theorem ql_L_73 : Cond.methodLink RL 73 yX2_set ∈ lw_g := mem_g (i := 812) (by decide +kernel) (by decide +kernel)
theorem ql_L_77 : Cond.methodLink RL 77 yX2_swap ∈ lw_g := mem_g (i := 816) (by decide +kernel) (by decide +kernel)
theorem ql_X2_166 : Cond.methodLink RX2 166 yX2_swapped ∈ lw_g := mem_g (i := 820) (by decide +kernel) (by decide +kernel)
theorem ql_L_81 : Cond.methodLink RL 81 yX2_word ∈ lw_g := mem_g (i := 823) (by decide +kernel) (by decide +kernel)
theorem ql_X2_170 : Cond.methodLink RX2 170 yX2_isWord ∈ lw_g := mem_g (i := 827) (by decide +kernel) (by decide +kernel)
theorem ql_L_85 : Cond.methodLink RL 85 yX2_undo ∈ lw_g := mem_g (i := 831) (by decide +kernel) (by decide +kernel)
theorem ql_L_89 : Cond.methodLink RL 89 yX2_keep ∈ lw_g := mem_g (i := 835) (by decide +kernel) (by decide +kernel)
theorem ql_L_93 : Cond.methodLink RL 93 yX2_on ∈ lw_g := mem_g (i := 839) (by decide +kernel) (by decide +kernel)
theorem ql_L_97 : Cond.methodLink RL 97 yX2_later ∈ lw_g := mem_g (i := 843) (by decide +kernel) (by decide +kernel)
theorem ql_X2_173 : Cond.methodLink RX2 173 yX2_asItIs ∈ lw_g := mem_g (i := 847) (by decide +kernel) (by decide +kernel)
theorem ql_X2_176 : Cond.methodLink RX2 176 yX2_goes ∈ lw_g := mem_g (i := 851) (by decide +kernel) (by decide +kernel)
theorem ql_L_101 : Cond.methodLink RL 101 yX2_hears ∈ lw_g := mem_g (i := 855) (by decide +kernel) (by decide +kernel)
theorem ql_L_105 : Cond.methodLink RL 105 yX2_finds ∈ lw_g := mem_g (i := 859) (by decide +kernel) (by decide +kernel)
theorem ql_L_109 : Cond.methodLink RL 109 yX2_round ∈ lw_g := mem_g (i := 863) (by decide +kernel) (by decide +kernel)
theorem ql_L_113 : Cond.methodLink RL 113 yX2_left ∈ lw_g := mem_g (i := 867) (by decide +kernel) (by decide +kernel)
theorem ql_L_117 : Cond.methodLink RL 117 yX2_best ∈ lw_g := mem_g (i := 871) (by decide +kernel) (by decide +kernel)
theorem ql_L_121 : Cond.methodLink RL 121 yX2_safest ∈ lw_g := mem_g (i := 875) (by decide +kernel) (by decide +kernel)
theorem ql_X2_180 : Cond.methodLink RX2 180 yX2_againBy ∈ lw_g := mem_g (i := 879) (by decide +kernel) (by decide +kernel)
theorem ql_L_125 : Cond.methodLink RL 125 yX2_kinds ∈ lw_g := mem_g (i := 883) (by decide +kernel) (by decide +kernel)
theorem ql_X2_186 : Cond.methodLink RX2 186 yX2_heardOf ∈ lw_g := mem_g (i := 887) (by decide +kernel) (by decide +kernel)
theorem ql_X2_189 : Cond.methodLink RX2 189 yX2_kindsOf ∈ lw_g := mem_g (i := 891) (by decide +kernel) (by decide +kernel)
theorem ql_X2_183 : Cond.methodLink RX2 183 yX2_isHeard ∈ lw_g := mem_g (i := 895) (by decide +kernel) (by decide +kernel)
theorem ql_L_129 : Cond.methodLink RL 129 yX2_words ∈ lw_g := mem_g (i := 899) (by decide +kernel) (by decide +kernel)
theorem ql_L_133 : Cond.methodLink RL 133 yX2_test ∈ lw_g := mem_g (i := 903) (by decide +kernel) (by decide +kernel)
theorem ql_X2_192 : Cond.methodLink RX2 192 yX2_greatest ∈ lw_g := mem_g (i := 907) (by decide +kernel) (by decide +kernel)
theorem ql_L_137 : Cond.methodLink RL 137 yX2_duel ∈ lw_g := mem_g (i := 911) (by decide +kernel) (by decide +kernel)
theorem ql_X2_196 : Cond.methodLink RX2 196 yX2_worthOf ∈ lw_g := mem_g (i := 915) (by decide +kernel) (by decide +kernel)
theorem ql_L_141 : Cond.methodLink RL 141 yX2_odds ∈ lw_g := mem_g (i := 919) (by decide +kernel) (by decide +kernel)
theorem ql_X2_210 : Cond.methodLink RX2 210 yX2_failing ∈ lw_g := mem_g (i := 923) (by decide +kernel) (by decide +kernel)
theorem ql_X2_206 : Cond.methodLink RX2 206 yX2_tellsPart ∈ lw_g := mem_g (i := 927) (by decide +kernel) (by decide +kernel)
theorem ql_X2_199 : Cond.methodLink RX2 199 yX2_common ∈ lw_g := mem_g (i := 931) (by decide +kernel) (by decide +kernel)
theorem ql_L_145 : Cond.methodLink RL 145 yX2_mid ∈ lw_g := mem_g (i := 934) (by decide +kernel) (by decide +kernel)
theorem ql_L_149 : Cond.methodLink RL 149 yX2_lots ∈ lw_g := mem_g (i := 938) (by decide +kernel) (by decide +kernel)
theorem ql_X2_218 : Cond.methodLink RX2 218 yX2_lot ∈ lw_g := mem_g (i := 945) (by decide +kernel) (by decide +kernel)
theorem ql_L_153 : Cond.methodLink RL 153 yX2_asked ∈ lw_g := mem_g (i := 949) (by decide +kernel) (by decide +kernel)
theorem ql_L_158 : Cond.methodLink RL 158 yX2_upper ∈ lw_g := mem_g (i := 953) (by decide +kernel) (by decide +kernel)
theorem ql_L_162 : Cond.methodLink RL 162 yX2_lower ∈ lw_g := mem_g (i := 957) (by decide +kernel) (by decide +kernel)
theorem ql_L_166 : Cond.methodLink RL 166 yX2_count ∈ lw_g := mem_g (i := 961) (by decide +kernel) (by decide +kernel)
theorem ql_X2_221 : Cond.methodLink RX2 221 yX2_slots ∈ lw_g := mem_g (i := 965) (by decide +kernel) (by decide +kernel)
theorem ql_X2_225 : Cond.methodLink RX2 225 yX2_empties ∈ lw_g := mem_g (i := 969) (by decide +kernel) (by decide +kernel)
theorem ql_X2_228 : Cond.methodLink RX2 228 yX2_there ∈ lw_g := mem_g (i := 973) (by decide +kernel) (by decide +kernel)
theorem ql_X2_231 : Cond.methodLink RX2 231 yX2_keptMany ∈ lw_g := mem_g (i := 976) (by decide +kernel) (by decide +kernel)
theorem ql_X2_234 : Cond.methodLink RX2 234 yX2_those ∈ lw_g := mem_g (i := 980) (by decide +kernel) (by decide +kernel)
theorem ql_L_170 : Cond.methodLink RL 170 yX2_finding ∈ lw_g := mem_g (i := 984) (by decide +kernel) (by decide +kernel)
theorem ql_L_174 : Cond.methodLink RL 174 yX2_findings ∈ lw_g := mem_g (i := 988) (by decide +kernel) (by decide +kernel)
theorem ql_L_178 : Cond.methodLink RL 178 yX2_digest ∈ lw_g := mem_g (i := 992) (by decide +kernel) (by decide +kernel)
theorem ql_X2_244 : Cond.methodLink RX2 244 yX2_count ∈ lw_g := mem_g (i := 998) (by decide +kernel) (by decide +kernel)
theorem ql_X2_247 : Cond.methodLink RX2 247 yX2_tubeOf ∈ lw_g := mem_g (i := 999) (by decide +kernel) (by decide +kernel)
theorem ql_X2_237 : Cond.methodLink RX2 237 yX2_tube ∈ lw_g := mem_g (i := 1003) (by decide +kernel) (by decide +kernel)
theorem q_acn : Cond.native arraycopyName ∈ lw_g := mem_g (i := 230) (by decide +kernel) (by decide +kernel)
theorem q_acs : Cond.static arraycopyName ∈ lw_g := mem_g (i := 229) (by decide +kernel) (by decide +kernel)
theorem q_inSys : Cond.initialized "java/lang/System" ∈ lw_g := mem_g (i := 85) (by decide +kernel) (by decide +kernel)
theorem q_inMath : Cond.initialized "java/lang/Math" ∈ lw_g := mem_g (i := 87) (by decide +kernel) (by decide +kernel)
theorem q_mmaxs : Cond.static Lib.Math.max.name ∈ lw_g := mem_g (i := 485) (by decide +kernel) (by decide +kernel)
theorem q_mmaxc : Cond.code Lib.Math.max.name Lib.Math.max.code 2 (some .int) ∈ lw_g := mem_g (i := 486) (by decide +kernel) (by decide +kernel)
theorem q_mmins : Cond.static Lib.Math.min.name ∈ lw_g := mem_g (i := 425) (by decide +kernel) (by decide +kernel)
theorem q_mminc : Cond.code Lib.Math.min.name Lib.Math.min.code 2 (some .int) ∈ lw_g := mem_g (i := 426) (by decide +kernel) (by decide +kernel)
theorem qk_J6_265 : Cond.constant RJ6 265 1431655765 ∈ lw_g := mem_g (i := 368) (by decide +kernel) (by decide +kernel)
theorem qk_J6_266 : Cond.constant RJ6 266 858993459 ∈ lw_g := mem_g (i := 369) (by decide +kernel) (by decide +kernel)
theorem qk_J6_267 : Cond.constant RJ6 267 252645135 ∈ lw_g := mem_g (i := 370) (by decide +kernel) (by decide +kernel)
theorem qk_X1_259 : Cond.constantLong RX1 259 12 ∈ lw_g := mem_g (i := 527) (by decide +kernel) (by decide +kernel)
theorem qk_X1_217 : Cond.constantLong RX1 217 2147483647 ∈ lw_g := mem_g (i := 540) (by decide +kernel) (by decide +kernel)
theorem qk_X1_219 : Cond.constantLong RX1 219 48271 ∈ lw_g := mem_g (i := 541) (by decide +kernel) (by decide +kernel)
theorem qk_X1_227 : Cond.constantLong RX1 227 17 ∈ lw_g := mem_g (i := 590) (by decide +kernel) (by decide +kernel)
theorem qk_X1_229 : Cond.constantLong RX1 229 31 ∈ lw_g := mem_g (i := 591) (by decide +kernel) (by decide +kernel)
theorem qk_X2_213 : Cond.constant RX2 213 2147483646 ∈ lw_g := mem_g (i := 942) (by decide +kernel) (by decide +kernel)
theorem qk_X2_214 : Cond.constantLong RX2 214 48271 ∈ lw_g := mem_g (i := 943) (by decide +kernel) (by decide +kernel)
theorem qk_X2_216 : Cond.constantLong RX2 216 2147483647 ∈ lw_g := mem_g (i := 944) (by decide +kernel) (by decide +kernel)
theorem qk_X2_240 : Cond.constantLong RX2 240 17 ∈ lw_g := mem_g (i := 996) (by decide +kernel) (by decide +kernel)
theorem qk_X2_242 : Cond.constantLong RX2 242 31 ∈ lw_g := mem_g (i := 997) (by decide +kernel) (by decide +kernel)
theorem cw_X1_row : CWf yX1_row cX1_row 3 (some .int) RX1 2 := ⟨mem_g (i := 191) (by decide +kernel) (by decide +kernel), mem_g (i := 189) (by decide +kernel) (by decide +kernel), mem_g (i := 190) (by decide +kernel) (by decide +kernel), mem_g (i := 82) (by decide +kernel) (by decide +kernel), rfl, by decide, by decide, by decide +kernel⟩
theorem cs_X1_isRow : CSf yX1_isRow cX1_isRow 1 (some .boolean) 1 := ⟨mem_g (i := 194) (by decide +kernel) (by decide +kernel), mem_g (i := 193) (by decide +kernel) (by decide +kernel), mem_g (i := 82) (by decide +kernel) (by decide +kernel), by decide, by decide, by decide +kernel⟩
theorem cs_X1_isWithin : CSf yX1_isWithin cX1_isWithin 3 (some .boolean) 3 := ⟨mem_g (i := 197) (by decide +kernel) (by decide +kernel), mem_g (i := 196) (by decide +kernel) (by decide +kernel), mem_g (i := 82) (by decide +kernel) (by decide +kernel), by decide, by decide, by decide +kernel⟩
theorem cw_X1_refuse : CWf yX1_refuse cX1_refuse 2 (some .int) RX1 1 := ⟨mem_g (i := 201) (by decide +kernel) (by decide +kernel), mem_g (i := 200) (by decide +kernel) (by decide +kernel), mem_g (i := 0) (by decide +kernel) (by decide +kernel), mem_g (i := 82) (by decide +kernel) (by decide +kernel), rfl, by decide, by decide, by decide +kernel⟩
theorem cw_X1_makeRow : CWf yX1_makeRow cX1_makeRow 4 none RX1 2 := ⟨mem_g (i := 205) (by decide +kernel) (by decide +kernel), mem_g (i := 204) (by decide +kernel) (by decide +kernel), mem_g (i := 1) (by decide +kernel) (by decide +kernel), mem_g (i := 82) (by decide +kernel) (by decide +kernel), rfl, by decide, by decide, by decide +kernel⟩
theorem cw_X1_lay : CWf yX1_lay cX1_lay 5 (some .int) RX1 3 := ⟨mem_g (i := 209) (by decide +kernel) (by decide +kernel), mem_g (i := 207) (by decide +kernel) (by decide +kernel), mem_g (i := 208) (by decide +kernel) (by decide +kernel), mem_g (i := 82) (by decide +kernel) (by decide +kernel), rfl, by decide, by decide, by decide +kernel⟩
theorem cs_X1_lookForPlace : CSf yX1_lookForPlace cX1_lookForPlace 2 (some .int) 2 := ⟨mem_g (i := 212) (by decide +kernel) (by decide +kernel), mem_g (i := 211) (by decide +kernel) (by decide +kernel), mem_g (i := 82) (by decide +kernel) (by decide +kernel), by decide, by decide, by decide +kernel⟩
theorem cw_X1_at : CWf yX1_at cX1_at 4 (some .int) RX1 2 := ⟨mem_g (i := 216) (by decide +kernel) (by decide +kernel), mem_g (i := 214) (by decide +kernel) (by decide +kernel), mem_g (i := 215) (by decide +kernel) (by decide +kernel), mem_g (i := 82) (by decide +kernel) (by decide +kernel), rfl, by decide, by decide, by decide +kernel⟩
theorem cw_X1_tear : CWf yX1_tear cX1_tear 2 (some .int) RX1 1 := ⟨mem_g (i := 220) (by decide +kernel) (by decide +kernel), mem_g (i := 218) (by decide +kernel) (by decide +kernel), mem_g (i := 219) (by decide +kernel) (by decide +kernel), mem_g (i := 82) (by decide +kernel) (by decide +kernel), rfl, by decide, by decide, by decide +kernel⟩
theorem cw_X1_copy : CWf yX1_copy cX1_copy 6 (some .int) RX1 5 := ⟨mem_g (i := 224) (by decide +kernel) (by decide +kernel), mem_g (i := 222) (by decide +kernel) (by decide +kernel), mem_g (i := 223) (by decide +kernel) (by decide +kernel), mem_g (i := 82) (by decide +kernel) (by decide +kernel), rfl, by decide, by decide, by decide +kernel⟩
theorem cs_X1_hasPlaces : CSf yX1_hasPlaces cX1_hasPlaces 3 (some .boolean) 3 := ⟨mem_g (i := 227) (by decide +kernel) (by decide +kernel), mem_g (i := 226) (by decide +kernel) (by decide +kernel), mem_g (i := 82) (by decide +kernel) (by decide +kernel), by decide, by decide, by decide +kernel⟩
theorem cw_X1_mean : CWf yX1_mean cX1_mean 6 (some .int) RX1 1 := ⟨mem_g (i := 234) (by decide +kernel) (by decide +kernel), mem_g (i := 232) (by decide +kernel) (by decide +kernel), mem_g (i := 233) (by decide +kernel) (by decide +kernel), mem_g (i := 82) (by decide +kernel) (by decide +kernel), rfl, by decide, by decide, by decide +kernel⟩
theorem cw_X1_text : CWf yX1_text cX1_text 4 (some .int) RX1 2 := ⟨mem_g (i := 238) (by decide +kernel) (by decide +kernel), mem_g (i := 236) (by decide +kernel) (by decide +kernel), mem_g (i := 237) (by decide +kernel) (by decide +kernel), mem_g (i := 82) (by decide +kernel) (by decide +kernel), rfl, by decide, by decide, by decide +kernel⟩
theorem cs_X1_isText : CSf yX1_isText cX1_isText 1 (some .boolean) 1 := ⟨mem_g (i := 241) (by decide +kernel) (by decide +kernel), mem_g (i := 240) (by decide +kernel) (by decide +kernel), mem_g (i := 82) (by decide +kernel) (by decide +kernel), by decide, by decide, by decide +kernel⟩
theorem cw_X1_put : CWf yX1_put cX1_put 6 (some .int) RX1 3 := ⟨mem_g (i := 245) (by decide +kernel) (by decide +kernel), mem_g (i := 243) (by decide +kernel) (by decide +kernel), mem_g (i := 244) (by decide +kernel) (by decide +kernel), mem_g (i := 82) (by decide +kernel) (by decide +kernel), rfl, by decide, by decide, by decide +kernel⟩
theorem cw_X1_fault : CWf yX1_fault cX1_fault 2 (some .int) RX1 1 := ⟨mem_g (i := 249) (by decide +kernel) (by decide +kernel), mem_g (i := 247) (by decide +kernel) (by decide +kernel), mem_g (i := 248) (by decide +kernel) (by decide +kernel), mem_g (i := 82) (by decide +kernel) (by decide +kernel), rfl, by decide, by decide, by decide +kernel⟩
theorem cw_X0_read : CWf yX0_read cX0_read 6 (some .int) RX0 2 := ⟨mem_g (i := 253) (by decide +kernel) (by decide +kernel), mem_g (i := 252) (by decide +kernel) (by decide +kernel), mem_g (i := 2) (by decide +kernel) (by decide +kernel), mem_g (i := 83) (by decide +kernel) (by decide +kernel), rfl, by decide, by decide, by decide +kernel⟩
theorem cw_X0_takeSign : CWf yX0_takeSign cX0_takeSign 4 (some .boolean) RX0 2 := ⟨mem_g (i := 257) (by decide +kernel) (by decide +kernel), mem_g (i := 256) (by decide +kernel) (by decide +kernel), mem_g (i := 3) (by decide +kernel) (by decide +kernel), mem_g (i := 83) (by decide +kernel) (by decide +kernel), rfl, by decide, by decide, by decide +kernel⟩
theorem cs_X0_kindOf : CSf yX0_kindOf cX0_kindOf 2 (some .int) 1 := ⟨mem_g (i := 260) (by decide +kernel) (by decide +kernel), mem_g (i := 259) (by decide +kernel) (by decide +kernel), mem_g (i := 83) (by decide +kernel) (by decide +kernel), by decide, by decide, by decide +kernel⟩
theorem cw_X1_store : CWf yX1_store cX1_store 3 (some .int) RX1 1 := ⟨mem_g (i := 266) (by decide +kernel) (by decide +kernel), mem_g (i := 264) (by decide +kernel) (by decide +kernel), mem_g (i := 265) (by decide +kernel) (by decide +kernel), mem_g (i := 82) (by decide +kernel) (by decide +kernel), rfl, by decide, by decide, by decide +kernel⟩
theorem cw_X0_beginAnew : CWf yX0_beginAnew cX0_beginAnew 2 none RX0 0 := ⟨mem_g (i := 270) (by decide +kernel) (by decide +kernel), mem_g (i := 269) (by decide +kernel) (by decide +kernel), mem_g (i := 4) (by decide +kernel) (by decide +kernel), mem_g (i := 83) (by decide +kernel) (by decide +kernel), rfl, by decide, by decide, by decide +kernel⟩
theorem cw_X0_takeFrom : CWf yX0_takeFrom cX0_takeFrom 2 none RX0 1 := ⟨mem_g (i := 274) (by decide +kernel) (by decide +kernel), mem_g (i := 273) (by decide +kernel) (by decide +kernel), mem_g (i := 5) (by decide +kernel) (by decide +kernel), mem_g (i := 83) (by decide +kernel) (by decide +kernel), rfl, by decide, by decide, by decide +kernel⟩
theorem cw_X1_tube : CWf yX1_tube cX1_tube 3 (some .int) RX1 2 := ⟨mem_g (i := 279) (by decide +kernel) (by decide +kernel), mem_g (i := 277) (by decide +kernel) (by decide +kernel), mem_g (i := 278) (by decide +kernel) (by decide +kernel), mem_g (i := 82) (by decide +kernel) (by decide +kernel), rfl, by decide, by decide, by decide +kernel⟩
theorem cw_X0_has : CWf yX0_has cX0_has 2 (some .boolean) RX0 1 := ⟨mem_g (i := 283) (by decide +kernel) (by decide +kernel), mem_g (i := 282) (by decide +kernel) (by decide +kernel), mem_g (i := 6) (by decide +kernel) (by decide +kernel), mem_g (i := 83) (by decide +kernel) (by decide +kernel), rfl, by decide, by decide, by decide +kernel⟩
theorem cw_X0_fact : CWf yX0_fact cX0_fact 3 (some .int) RX0 2 := ⟨mem_g (i := 287) (by decide +kernel) (by decide +kernel), mem_g (i := 286) (by decide +kernel) (by decide +kernel), mem_g (i := 7) (by decide +kernel) (by decide +kernel), mem_g (i := 83) (by decide +kernel) (by decide +kernel), rfl, by decide, by decide, by decide +kernel⟩
theorem cw_X0_isReady : CWf yX0_isReady cX0_isReady 2 (some .boolean) RX0 1 := ⟨mem_g (i := 291) (by decide +kernel) (by decide +kernel), mem_g (i := 290) (by decide +kernel) (by decide +kernel), mem_g (i := 8) (by decide +kernel) (by decide +kernel), mem_g (i := 83) (by decide +kernel) (by decide +kernel), rfl, by decide, by decide, by decide +kernel⟩
theorem cw_X0_cameTo : CWf yX0_cameTo cX0_cameTo 3 (some .int) RX0 1 := ⟨mem_g (i := 295) (by decide +kernel) (by decide +kernel), mem_g (i := 294) (by decide +kernel) (by decide +kernel), mem_g (i := 9) (by decide +kernel) (by decide +kernel), mem_g (i := 83) (by decide +kernel) (by decide +kernel), rfl, by decide, by decide, by decide +kernel⟩
theorem cw_X0_comesOut : CWf yX0_comesOut cX0_comesOut 2 (some .int) RX0 1 := ⟨mem_g (i := 299) (by decide +kernel) (by decide +kernel), mem_g (i := 298) (by decide +kernel) (by decide +kernel), mem_g (i := 10) (by decide +kernel) (by decide +kernel), mem_g (i := 83) (by decide +kernel) (by decide +kernel), rfl, by decide, by decide, by decide +kernel⟩
theorem cw_X0_sentAs : CWf yX0_sentAs cX0_sentAs 5 (some .int) RX0 3 := ⟨mem_g (i := 303) (by decide +kernel) (by decide +kernel), mem_g (i := 302) (by decide +kernel) (by decide +kernel), mem_g (i := 11) (by decide +kernel) (by decide +kernel), mem_g (i := 83) (by decide +kernel) (by decide +kernel), rfl, by decide, by decide, by decide +kernel⟩
theorem cw_X0_isStruck : CWf yX0_isStruck cX0_isStruck 2 (some .boolean) RX0 1 := ⟨mem_g (i := 307) (by decide +kernel) (by decide +kernel), mem_g (i := 306) (by decide +kernel) (by decide +kernel), mem_g (i := 12) (by decide +kernel) (by decide +kernel), mem_g (i := 83) (by decide +kernel) (by decide +kernel), rfl, by decide, by decide, by decide +kernel⟩
theorem cw_X0_ticksTillStruck : CWf yX0_ticksTillStruck cX0_ticksTillStruck 3 (some .int) RX0 1 := ⟨mem_g (i := 311) (by decide +kernel) (by decide +kernel), mem_g (i := 310) (by decide +kernel) (by decide +kernel), mem_g (i := 13) (by decide +kernel) (by decide +kernel), mem_g (i := 83) (by decide +kernel) (by decide +kernel), rfl, by decide, by decide, by decide +kernel⟩
theorem cw_X1_mark : CWf yX1_mark cX1_mark 3 (some .int) RX1 2 := ⟨mem_g (i := 315) (by decide +kernel) (by decide +kernel), mem_g (i := 313) (by decide +kernel) (by decide +kernel), mem_g (i := 314) (by decide +kernel) (by decide +kernel), mem_g (i := 82) (by decide +kernel) (by decide +kernel), rfl, by decide, by decide, by decide +kernel⟩
theorem cw_X0_isOf : CWf yX0_isOf cX0_isOf 4 (some .boolean) RX0 2 := ⟨mem_g (i := 319) (by decide +kernel) (by decide +kernel), mem_g (i := 318) (by decide +kernel) (by decide +kernel), mem_g (i := 14) (by decide +kernel) (by decide +kernel), mem_g (i := 83) (by decide +kernel) (by decide +kernel), rfl, by decide, by decide, by decide +kernel⟩
theorem cw_X0_tells : CWf yX0_tells cX0_tells 4 (some .int) RX0 2 := ⟨mem_g (i := 323) (by decide +kernel) (by decide +kernel), mem_g (i := 322) (by decide +kernel) (by decide +kernel), mem_g (i := 15) (by decide +kernel) (by decide +kernel), mem_g (i := 83) (by decide +kernel) (by decide +kernel), rfl, by decide, by decide, by decide +kernel⟩
theorem cw_X1_tick : CWf yX1_tick cX1_tick 1 (some .int) RX1 0 := ⟨mem_g (i := 327) (by decide +kernel) (by decide +kernel), mem_g (i := 325) (by decide +kernel) (by decide +kernel), mem_g (i := 326) (by decide +kernel) (by decide +kernel), mem_g (i := 82) (by decide +kernel) (by decide +kernel), rfl, by decide, by decide, by decide +kernel⟩
theorem cw_X1_hasRoomFor : CWf yX1_hasRoomFor cX1_hasRoomFor 2 (some .boolean) RX1 1 := ⟨mem_g (i := 331) (by decide +kernel) (by decide +kernel), mem_g (i := 330) (by decide +kernel) (by decide +kernel), mem_g (i := 16) (by decide +kernel) (by decide +kernel), mem_g (i := 82) (by decide +kernel) (by decide +kernel), rfl, by decide, by decide, by decide +kernel⟩
theorem cw_X1_addDeed : CWf yX1_addDeed cX1_addDeed 5 none RX1 3 := ⟨mem_g (i := 335) (by decide +kernel) (by decide +kernel), mem_g (i := 334) (by decide +kernel) (by decide +kernel), mem_g (i := 17) (by decide +kernel) (by decide +kernel), mem_g (i := 82) (by decide +kernel) (by decide +kernel), rfl, by decide, by decide, by decide +kernel⟩
theorem cw_X1_perform : CWf yX1_perform cX1_perform 4 none RX1 1 := ⟨mem_g (i := 339) (by decide +kernel) (by decide +kernel), mem_g (i := 338) (by decide +kernel) (by decide +kernel), mem_g (i := 18) (by decide +kernel) (by decide +kernel), mem_g (i := 82) (by decide +kernel) (by decide +kernel), rfl, by decide, by decide, by decide +kernel⟩
theorem cw_X0_goOn : CWf yX0_goOn cX0_goOn 3 none RX0 1 := ⟨mem_g (i := 343) (by decide +kernel) (by decide +kernel), mem_g (i := 342) (by decide +kernel) (by decide +kernel), mem_g (i := 19) (by decide +kernel) (by decide +kernel), mem_g (i := 83) (by decide +kernel) (by decide +kernel), rfl, by decide, by decide, by decide +kernel⟩
theorem cw_X0_letPass : CWf yX0_letPass cX0_letPass 3 none RX0 0 := ⟨mem_g (i := 347) (by decide +kernel) (by decide +kernel), mem_g (i := 346) (by decide +kernel) (by decide +kernel), mem_g (i := 20) (by decide +kernel) (by decide +kernel), mem_g (i := 83) (by decide +kernel) (by decide +kernel), rfl, by decide, by decide, by decide +kernel⟩
theorem cw_X0_turnSlot : CWf yX0_turnSlot cX0_turnSlot 3 none RX0 2 := ⟨mem_g (i := 352) (by decide +kernel) (by decide +kernel), mem_g (i := 351) (by decide +kernel) (by decide +kernel), mem_g (i := 21) (by decide +kernel) (by decide +kernel), mem_g (i := 83) (by decide +kernel) (by decide +kernel), rfl, by decide, by decide, by decide +kernel⟩
theorem cw_X0_swapWays : CWf yX0_swapWays cX0_swapWays 4 none RX0 2 := ⟨mem_g (i := 356) (by decide +kernel) (by decide +kernel), mem_g (i := 355) (by decide +kernel) (by decide +kernel), mem_g (i := 22) (by decide +kernel) (by decide +kernel), mem_g (i := 83) (by decide +kernel) (by decide +kernel), rfl, by decide, by decide, by decide +kernel⟩
theorem cw_X0_putWord : CWf yX0_putWord cX0_putWord 3 none RX0 2 := ⟨mem_g (i := 360) (by decide +kernel) (by decide +kernel), mem_g (i := 359) (by decide +kernel) (by decide +kernel), mem_g (i := 23) (by decide +kernel) (by decide +kernel), mem_g (i := 83) (by decide +kernel) (by decide +kernel), rfl, by decide, by decide, by decide +kernel⟩
theorem cw_X0_pulses : CWf yX0_pulses cX0_pulses 3 (some .int) RX0 0 := ⟨mem_g (i := 364) (by decide +kernel) (by decide +kernel), mem_g (i := 363) (by decide +kernel) (by decide +kernel), mem_g (i := 24) (by decide +kernel) (by decide +kernel), mem_g (i := 83) (by decide +kernel) (by decide +kernel), rfl, by decide, by decide, by decide +kernel⟩
theorem cs_J6_bitCount : CSf yJ6_bitCount_0f7a4 cJ6_bitCount_0f7a4 1 (some .int) 1 := ⟨mem_g (i := 367) (by decide +kernel) (by decide +kernel), mem_g (i := 366) (by decide +kernel) (by decide +kernel), mem_g (i := 86) (by decide +kernel) (by decide +kernel), by decide, by decide, by decide +kernel⟩
theorem cw_X1_set : CWf yX1_set cX1_set 3 (some .int) RX1 2 := ⟨mem_g (i := 374) (by decide +kernel) (by decide +kernel), mem_g (i := 372) (by decide +kernel) (by decide +kernel), mem_g (i := 373) (by decide +kernel) (by decide +kernel), mem_g (i := 82) (by decide +kernel) (by decide +kernel), rfl, by decide, by decide, by decide +kernel⟩
theorem cw_X1_swap : CWf yX1_swap cX1_swap 3 (some .int) RX1 2 := ⟨mem_g (i := 378) (by decide +kernel) (by decide +kernel), mem_g (i := 376) (by decide +kernel) (by decide +kernel), mem_g (i := 377) (by decide +kernel) (by decide +kernel), mem_g (i := 82) (by decide +kernel) (by decide +kernel), rfl, by decide, by decide, by decide +kernel⟩
theorem cw_X1_word : CWf yX1_word cX1_word 4 (some .int) RX1 2 := ⟨mem_g (i := 382) (by decide +kernel) (by decide +kernel), mem_g (i := 380) (by decide +kernel) (by decide +kernel), mem_g (i := 381) (by decide +kernel) (by decide +kernel), mem_g (i := 82) (by decide +kernel) (by decide +kernel), rfl, by decide, by decide, by decide +kernel⟩
theorem cw_X0_canHave : CWf yX0_canHave cX0_canHave 3 (some .boolean) RX0 2 := ⟨mem_g (i := 386) (by decide +kernel) (by decide +kernel), mem_g (i := 385) (by decide +kernel) (by decide +kernel), mem_g (i := 25) (by decide +kernel) (by decide +kernel), mem_g (i := 83) (by decide +kernel) (by decide +kernel), rfl, by decide, by decide, by decide +kernel⟩
theorem cw_X1_undo : CWf yX1_undo cX1_undo 3 (some .int) RX1 1 := ⟨mem_g (i := 390) (by decide +kernel) (by decide +kernel), mem_g (i := 388) (by decide +kernel) (by decide +kernel), mem_g (i := 389) (by decide +kernel) (by decide +kernel), mem_g (i := 82) (by decide +kernel) (by decide +kernel), rfl, by decide, by decide, by decide +kernel⟩
theorem cw_X1_doAgain : CWf yX1_doAgain cX1_doAgain 2 none RX1 0 := ⟨mem_g (i := 394) (by decide +kernel) (by decide +kernel), mem_g (i := 393) (by decide +kernel) (by decide +kernel), mem_g (i := 26) (by decide +kernel) (by decide +kernel), mem_g (i := 82) (by decide +kernel) (by decide +kernel), rfl, by decide, by decide, by decide +kernel⟩
theorem cw_X1_keep : CWf yX1_keep cX1_keep 2 (some .int) RX1 1 := ⟨mem_g (i := 398) (by decide +kernel) (by decide +kernel), mem_g (i := 396) (by decide +kernel) (by decide +kernel), mem_g (i := 397) (by decide +kernel) (by decide +kernel), mem_g (i := 82) (by decide +kernel) (by decide +kernel), rfl, by decide, by decide, by decide +kernel⟩
theorem cs_X1_isPlaceToKeep : CSf yX1_isPlaceToKeep cX1_isPlaceToKeep 1 (some .boolean) 1 := ⟨mem_g (i := 401) (by decide +kernel) (by decide +kernel), mem_g (i := 400) (by decide +kernel) (by decide +kernel), mem_g (i := 82) (by decide +kernel) (by decide +kernel), by decide, by decide, by decide +kernel⟩
theorem cw_X1_on : CWf yX1_on cX1_on 2 (some .int) RX1 1 := ⟨mem_g (i := 405) (by decide +kernel) (by decide +kernel), mem_g (i := 403) (by decide +kernel) (by decide +kernel), mem_g (i := 404) (by decide +kernel) (by decide +kernel), mem_g (i := 82) (by decide +kernel) (by decide +kernel), rfl, by decide, by decide, by decide +kernel⟩
theorem cw_X1_later : CWf yX1_later cX1_later 3 (some .int) RX1 2 := ⟨mem_g (i := 409) (by decide +kernel) (by decide +kernel), mem_g (i := 407) (by decide +kernel) (by decide +kernel), mem_g (i := 408) (by decide +kernel) (by decide +kernel), mem_g (i := 82) (by decide +kernel) (by decide +kernel), rfl, by decide, by decide, by decide +kernel⟩
theorem cw_X1_hears : CWf yX1_hears cX1_hears 6 (some .int) RX1 3 := ⟨mem_g (i := 413) (by decide +kernel) (by decide +kernel), mem_g (i := 411) (by decide +kernel) (by decide +kernel), mem_g (i := 412) (by decide +kernel) (by decide +kernel), mem_g (i := 82) (by decide +kernel) (by decide +kernel), rfl, by decide, by decide, by decide +kernel⟩
theorem cw_X1_finds : CWf yX1_finds cX1_finds 9 (some .int) RX1 3 := ⟨mem_g (i := 419) (by decide +kernel) (by decide +kernel), mem_g (i := 417) (by decide +kernel) (by decide +kernel), mem_g (i := 418) (by decide +kernel) (by decide +kernel), mem_g (i := 82) (by decide +kernel) (by decide +kernel), rfl, by decide, by decide, by decide +kernel⟩
theorem cw_X1_round : CWf yX1_round cX1_round 3 (some .int) RX1 0 := ⟨mem_g (i := 423) (by decide +kernel) (by decide +kernel), mem_g (i := 421) (by decide +kernel) (by decide +kernel), mem_g (i := 422) (by decide +kernel) (by decide +kernel), mem_g (i := 82) (by decide +kernel) (by decide +kernel), rfl, by decide, by decide, by decide +kernel⟩
theorem cw_X0_hasWordsOf : CWf yX0_hasWordsOf cX0_hasWordsOf 3 (some .boolean) RX0 1 := ⟨mem_g (i := 430) (by decide +kernel) (by decide +kernel), mem_g (i := 429) (by decide +kernel) (by decide +kernel), mem_g (i := 27) (by decide +kernel) (by decide +kernel), mem_g (i := 83) (by decide +kernel) (by decide +kernel), rfl, by decide, by decide, by decide +kernel⟩
theorem cw_X1_left : CWf yX1_left cX1_left 2 (some .int) RX1 1 := ⟨mem_g (i := 434) (by decide +kernel) (by decide +kernel), mem_g (i := 432) (by decide +kernel) (by decide +kernel), mem_g (i := 433) (by decide +kernel) (by decide +kernel), mem_g (i := 82) (by decide +kernel) (by decide +kernel), rfl, by decide, by decide, by decide +kernel⟩
theorem cw_X0_emptyOnes : CWf yX0_emptyOnes cX0_emptyOnes 3 (some .int) RX0 0 := ⟨mem_g (i := 438) (by decide +kernel) (by decide +kernel), mem_g (i := 437) (by decide +kernel) (by decide +kernel), mem_g (i := 28) (by decide +kernel) (by decide +kernel), mem_g (i := 83) (by decide +kernel) (by decide +kernel), rfl, by decide, by decide, by decide +kernel⟩
theorem cw_X1_best : CWf yX1_best cX1_best 6 (some .int) RX1 1 := ⟨mem_g (i := 443) (by decide +kernel) (by decide +kernel), mem_g (i := 441) (by decide +kernel) (by decide +kernel), mem_g (i := 442) (by decide +kernel) (by decide +kernel), mem_g (i := 82) (by decide +kernel) (by decide +kernel), rfl, by decide, by decide, by decide +kernel⟩
theorem cw_X1_safest : CWf yX1_safest cX1_safest 6 (some .int) RX1 1 := ⟨mem_g (i := 447) (by decide +kernel) (by decide +kernel), mem_g (i := 445) (by decide +kernel) (by decide +kernel), mem_g (i := 446) (by decide +kernel) (by decide +kernel), mem_g (i := 82) (by decide +kernel) (by decide +kernel), rfl, by decide, by decide, by decide +kernel⟩
theorem cw_X1_comesBack : CWf yX1_comesBack cX1_comesBack 4 (some .int) RX1 2 := ⟨mem_g (i := 451) (by decide +kernel) (by decide +kernel), mem_g (i := 450) (by decide +kernel) (by decide +kernel), mem_g (i := 29) (by decide +kernel) (by decide +kernel), mem_g (i := 82) (by decide +kernel) (by decide +kernel), rfl, by decide, by decide, by decide +kernel⟩
theorem cw_X1_kinds : CWf yX1_kinds cX1_kinds 4 (some .int) RX1 2 := ⟨mem_g (i := 455) (by decide +kernel) (by decide +kernel), mem_g (i := 453) (by decide +kernel) (by decide +kernel), mem_g (i := 454) (by decide +kernel) (by decide +kernel), mem_g (i := 82) (by decide +kernel) (by decide +kernel), rfl, by decide, by decide, by decide +kernel⟩
theorem cw_X1_lookThroughHeard : CWf yX1_lookThroughHeard cX1_lookThroughHeard 4 (some .int) RX1 1 := ⟨mem_g (i := 459) (by decide +kernel) (by decide +kernel), mem_g (i := 458) (by decide +kernel) (by decide +kernel), mem_g (i := 30) (by decide +kernel) (by decide +kernel), mem_g (i := 82) (by decide +kernel) (by decide +kernel), rfl, by decide, by decide, by decide +kernel⟩
theorem cw_X1_kindsHeard : CWf yX1_kindsHeard cX1_kindsHeard 5 (some .int) RX1 2 := ⟨mem_g (i := 463) (by decide +kernel) (by decide +kernel), mem_g (i := 462) (by decide +kernel) (by decide +kernel), mem_g (i := 31) (by decide +kernel) (by decide +kernel), mem_g (i := 82) (by decide +kernel) (by decide +kernel), rfl, by decide, by decide, by decide +kernel⟩
theorem cw_X1_isHeard : CWf yX1_isHeard cX1_isHeard 6 (some .boolean) RX1 2 := ⟨mem_g (i := 467) (by decide +kernel) (by decide +kernel), mem_g (i := 466) (by decide +kernel) (by decide +kernel), mem_g (i := 32) (by decide +kernel) (by decide +kernel), mem_g (i := 82) (by decide +kernel) (by decide +kernel), rfl, by decide, by decide, by decide +kernel⟩
theorem cw_X1_words : CWf yX1_words cX1_words 7 (some .int) RX1 2 := ⟨mem_g (i := 471) (by decide +kernel) (by decide +kernel), mem_g (i := 469) (by decide +kernel) (by decide +kernel), mem_g (i := 470) (by decide +kernel) (by decide +kernel), mem_g (i := 82) (by decide +kernel) (by decide +kernel), rfl, by decide, by decide, by decide +kernel⟩
theorem cw_X1_test : CWf yX1_test cX1_test 9 (some .int) RX1 2 := ⟨mem_g (i := 475) (by decide +kernel) (by decide +kernel), mem_g (i := 473) (by decide +kernel) (by decide +kernel), mem_g (i := 474) (by decide +kernel) (by decide +kernel), mem_g (i := 82) (by decide +kernel) (by decide +kernel), rfl, by decide, by decide, by decide +kernel⟩
theorem cw_X1_lookAhead : CWf yX1_lookAhead cX1_lookAhead 4 none RX1 1 := ⟨mem_g (i := 479) (by decide +kernel) (by decide +kernel), mem_g (i := 478) (by decide +kernel) (by decide +kernel), mem_g (i := 33) (by decide +kernel) (by decide +kernel), mem_g (i := 82) (by decide +kernel) (by decide +kernel), rfl, by decide, by decide, by decide +kernel⟩
theorem cw_X1_greatestPart : CWf yX1_greatestPart cX1_greatestPart 7 (some .int) RX1 2 := ⟨mem_g (i := 483) (by decide +kernel) (by decide +kernel), mem_g (i := 482) (by decide +kernel) (by decide +kernel), mem_g (i := 34) (by decide +kernel) (by decide +kernel), mem_g (i := 82) (by decide +kernel) (by decide +kernel), rfl, by decide, by decide, by decide +kernel⟩
theorem cw_X1_duel : CWf yX1_duel cX1_duel 2 (some .int) RX1 1 := ⟨mem_g (i := 490) (by decide +kernel) (by decide +kernel), mem_g (i := 488) (by decide +kernel) (by decide +kernel), mem_g (i := 489) (by decide +kernel) (by decide +kernel), mem_g (i := 82) (by decide +kernel) (by decide +kernel), rfl, by decide, by decide, by decide +kernel⟩
theorem cw_X0_ends : CWf yX0_ends cX0_ends 3 (some .int) RX0 0 := ⟨mem_g (i := 494) (by decide +kernel) (by decide +kernel), mem_g (i := 493) (by decide +kernel) (by decide +kernel), mem_g (i := 35) (by decide +kernel) (by decide +kernel), mem_g (i := 83) (by decide +kernel) (by decide +kernel), rfl, by decide, by decide, by decide +kernel⟩
theorem cw_X1_playOut : CWf yX1_playOut cX1_playOut 9 (some .int) RX1 3 := ⟨mem_g (i := 498) (by decide +kernel) (by decide +kernel), mem_g (i := 497) (by decide +kernel) (by decide +kernel), mem_g (i := 36) (by decide +kernel) (by decide +kernel), mem_g (i := 82) (by decide +kernel) (by decide +kernel), rfl, by decide, by decide, by decide +kernel⟩
theorem cw_X1_leftWithEnds : CWf yX1_leftWithEnds cX1_leftWithEnds 2 (some .int) RX1 1 := ⟨mem_g (i := 502) (by decide +kernel) (by decide +kernel), mem_g (i := 501) (by decide +kernel) (by decide +kernel), mem_g (i := 37) (by decide +kernel) (by decide +kernel), mem_g (i := 82) (by decide +kernel) (by decide +kernel), rfl, by decide, by decide, by decide +kernel⟩
theorem cw_X0_putEnds : CWf yX0_putEnds cX0_putEnds 3 none RX0 1 := ⟨mem_g (i := 506) (by decide +kernel) (by decide +kernel), mem_g (i := 505) (by decide +kernel) (by decide +kernel), mem_g (i := 38) (by decide +kernel) (by decide +kernel), mem_g (i := 83) (by decide +kernel) (by decide +kernel), rfl, by decide, by decide, by decide +kernel⟩
theorem cw_X1_odds : CWf yX1_odds cX1_odds 4 (some .int) RX1 3 := ⟨mem_g (i := 510) (by decide +kernel) (by decide +kernel), mem_g (i := 508) (by decide +kernel) (by decide +kernel), mem_g (i := 509) (by decide +kernel) (by decide +kernel), mem_g (i := 82) (by decide +kernel) (by decide +kernel), rfl, by decide, by decide, by decide +kernel⟩
theorem cw_X1_tellChance : CWf yX1_tellChance cX1_tellChance 11 none RX1 3 := ⟨mem_g (i := 514) (by decide +kernel) (by decide +kernel), mem_g (i := 513) (by decide +kernel) (by decide +kernel), mem_g (i := 39) (by decide +kernel) (by decide +kernel), mem_g (i := 82) (by decide +kernel) (by decide +kernel), rfl, by decide, by decide, by decide +kernel⟩
theorem cw_X1_weightOf : CWf yX1_weightOf cX1_weightOf 6 (some .long) RX1 2 := ⟨mem_g (i := 518) (by decide +kernel) (by decide +kernel), mem_g (i := 517) (by decide +kernel) (by decide +kernel), mem_g (i := 40) (by decide +kernel) (by decide +kernel), mem_g (i := 82) (by decide +kernel) (by decide +kernel), rfl, by decide, by decide, by decide +kernel⟩
theorem cw_X1_leftWithout : CWf yX1_leftWithout cX1_leftWithout 3 (some .int) RX1 2 := ⟨mem_g (i := 522) (by decide +kernel) (by decide +kernel), mem_g (i := 521) (by decide +kernel) (by decide +kernel), mem_g (i := 41) (by decide +kernel) (by decide +kernel), mem_g (i := 82) (by decide +kernel) (by decide +kernel), rfl, by decide, by decide, by decide +kernel⟩
theorem cw_X0_empty : CWf yX0_empty cX0_empty 3 none RX0 1 := ⟨mem_g (i := 526) (by decide +kernel) (by decide +kernel), mem_g (i := 525) (by decide +kernel) (by decide +kernel), mem_g (i := 42) (by decide +kernel) (by decide +kernel), mem_g (i := 83) (by decide +kernel) (by decide +kernel), rfl, by decide, by decide, by decide +kernel⟩
theorem cw_X1_tellLowest : CWf yX1_tellLowest cX1_tellLowest 12 none RX1 2 := ⟨mem_g (i := 531) (by decide +kernel) (by decide +kernel), mem_g (i := 530) (by decide +kernel) (by decide +kernel), mem_g (i := 43) (by decide +kernel) (by decide +kernel), mem_g (i := 82) (by decide +kernel) (by decide +kernel), rfl, by decide, by decide, by decide +kernel⟩
theorem cw_X1_mid : CWf yX1_mid cX1_mid 3 (some .int) RX1 2 := ⟨mem_g (i := 535) (by decide +kernel) (by decide +kernel), mem_g (i := 533) (by decide +kernel) (by decide +kernel), mem_g (i := 534) (by decide +kernel) (by decide +kernel), mem_g (i := 82) (by decide +kernel) (by decide +kernel), rfl, by decide, by decide, by decide +kernel⟩
theorem cw_X1_lots : CWf yX1_lots cX1_lots 6 (some .int) RX1 2 := ⟨mem_g (i := 539) (by decide +kernel) (by decide +kernel), mem_g (i := 537) (by decide +kernel) (by decide +kernel), mem_g (i := 538) (by decide +kernel) (by decide +kernel), mem_g (i := 82) (by decide +kernel) (by decide +kernel), rfl, by decide, by decide, by decide +kernel⟩
theorem cw_X1_doByLot : CWf yX1_doByLot cX1_doByLot 4 none RX1 1 := ⟨mem_g (i := 545) (by decide +kernel) (by decide +kernel), mem_g (i := 544) (by decide +kernel) (by decide +kernel), mem_g (i := 44) (by decide +kernel) (by decide +kernel), mem_g (i := 82) (by decide +kernel) (by decide +kernel), rfl, by decide, by decide, by decide +kernel⟩
theorem cw_X1_asked : CWf yX1_asked cX1_asked 1 (some .int) RX1 0 := ⟨mem_g (i := 549) (by decide +kernel) (by decide +kernel), mem_g (i := 547) (by decide +kernel) (by decide +kernel), mem_g (i := 548) (by decide +kernel) (by decide +kernel), mem_g (i := 82) (by decide +kernel) (by decide +kernel), rfl, by decide, by decide, by decide +kernel⟩
theorem cw_X1_upper : CWf yX1_upper cX1_upper 1 (some .long) RX1 0 := ⟨mem_g (i := 553) (by decide +kernel) (by decide +kernel), mem_g (i := 551) (by decide +kernel) (by decide +kernel), mem_g (i := 552) (by decide +kernel) (by decide +kernel), mem_g (i := 82) (by decide +kernel) (by decide +kernel), rfl, by decide, by decide, by decide +kernel⟩
theorem cw_X1_lower : CWf yX1_lower cX1_lower 1 (some .long) RX1 0 := ⟨mem_g (i := 557) (by decide +kernel) (by decide +kernel), mem_g (i := 555) (by decide +kernel) (by decide +kernel), mem_g (i := 556) (by decide +kernel) (by decide +kernel), mem_g (i := 82) (by decide +kernel) (by decide +kernel), rfl, by decide, by decide, by decide +kernel⟩
theorem cw_X1_count : CWf yX1_count cX1_count 2 (some .int) RX1 1 := ⟨mem_g (i := 561) (by decide +kernel) (by decide +kernel), mem_g (i := 559) (by decide +kernel) (by decide +kernel), mem_g (i := 560) (by decide +kernel) (by decide +kernel), mem_g (i := 82) (by decide +kernel) (by decide +kernel), rfl, by decide, by decide, by decide +kernel⟩
theorem cw_X1_countOf : CWf yX1_countOf cX1_countOf 2 (some .int) RX1 1 := ⟨mem_g (i := 565) (by decide +kernel) (by decide +kernel), mem_g (i := 564) (by decide +kernel) (by decide +kernel), mem_g (i := 45) (by decide +kernel) (by decide +kernel), mem_g (i := 82) (by decide +kernel) (by decide +kernel), rfl, by decide, by decide, by decide +kernel⟩
theorem cw_X0_slots : CWf yX0_slots cX0_slots 3 (some .int) RX0 0 := ⟨mem_g (i := 569) (by decide +kernel) (by decide +kernel), mem_g (i := 568) (by decide +kernel) (by decide +kernel), mem_g (i := 46) (by decide +kernel) (by decide +kernel), mem_g (i := 83) (by decide +kernel) (by decide +kernel), rfl, by decide, by decide, by decide +kernel⟩
theorem cs_X1_present : CSf yX1_present cX1_present 6 (some .int) 1 := ⟨mem_g (i := 572) (by decide +kernel) (by decide +kernel), mem_g (i := 571) (by decide +kernel) (by decide +kernel), mem_g (i := 82) (by decide +kernel) (by decide +kernel), by decide, by decide, by decide +kernel⟩
theorem cw_X0_manyOf : CWf yX0_manyOf cX0_manyOf 4 (some .int) RX0 1 := ⟨mem_g (i := 576) (by decide +kernel) (by decide +kernel), mem_g (i := 575) (by decide +kernel) (by decide +kernel), mem_g (i := 47) (by decide +kernel) (by decide +kernel), mem_g (i := 83) (by decide +kernel) (by decide +kernel), rfl, by decide, by decide, by decide +kernel⟩
theorem cw_X1_finding : CWf yX1_finding cX1_finding 1 (some .int) RX1 0 := ⟨mem_g (i := 581) (by decide +kernel) (by decide +kernel), mem_g (i := 579) (by decide +kernel) (by decide +kernel), mem_g (i := 580) (by decide +kernel) (by decide +kernel), mem_g (i := 82) (by decide +kernel) (by decide +kernel), rfl, by decide, by decide, by decide +kernel⟩
theorem cw_X1_findings : CWf yX1_findings cX1_findings 2 (some .int) RX1 1 := ⟨mem_g (i := 585) (by decide +kernel) (by decide +kernel), mem_g (i := 583) (by decide +kernel) (by decide +kernel), mem_g (i := 584) (by decide +kernel) (by decide +kernel), mem_g (i := 82) (by decide +kernel) (by decide +kernel), rfl, by decide, by decide, by decide +kernel⟩
theorem cw_X1_digest : CWf yX1_digest cX1_digest 5 (some .long) RX1 0 := ⟨mem_g (i := 589) (by decide +kernel) (by decide +kernel), mem_g (i := 587) (by decide +kernel) (by decide +kernel), mem_g (i := 588) (by decide +kernel) (by decide +kernel), mem_g (i := 82) (by decide +kernel) (by decide +kernel), rfl, by decide, by decide, by decide +kernel⟩
theorem cw_X2_row : CWf yX2_row cX2_row 3 (some .int) RX2 2 := ⟨mem_g (i := 681) (by decide +kernel) (by decide +kernel), mem_g (i := 679) (by decide +kernel) (by decide +kernel), mem_g (i := 680) (by decide +kernel) (by decide +kernel), mem_g (i := 84) (by decide +kernel) (by decide +kernel), rfl, by decide, by decide, by decide +kernel⟩
theorem cs_X2_isRow : CSf yX2_isRow cX2_isRow 1 (some .boolean) 1 := ⟨mem_g (i := 684) (by decide +kernel) (by decide +kernel), mem_g (i := 683) (by decide +kernel) (by decide +kernel), mem_g (i := 84) (by decide +kernel) (by decide +kernel), by decide, by decide, by decide +kernel⟩
theorem cs_X2_in : CSf yX2_in cX2_in 3 (some .boolean) 3 := ⟨mem_g (i := 687) (by decide +kernel) (by decide +kernel), mem_g (i := 686) (by decide +kernel) (by decide +kernel), mem_g (i := 84) (by decide +kernel) (by decide +kernel), by decide, by decide, by decide +kernel⟩
theorem cw_X2_found : CWf yX2_found cX2_found 2 (some .int) RX2 1 := ⟨mem_g (i := 691) (by decide +kernel) (by decide +kernel), mem_g (i := 690) (by decide +kernel) (by decide +kernel), mem_g (i := 48) (by decide +kernel) (by decide +kernel), mem_g (i := 84) (by decide +kernel) (by decide +kernel), rfl, by decide, by decide, by decide +kernel⟩
theorem cw_X2_makesRow : CWf yX2_makesRow cX2_makesRow 4 none RX2 2 := ⟨mem_g (i := 695) (by decide +kernel) (by decide +kernel), mem_g (i := 694) (by decide +kernel) (by decide +kernel), mem_g (i := 49) (by decide +kernel) (by decide +kernel), mem_g (i := 84) (by decide +kernel) (by decide +kernel), rfl, by decide, by decide, by decide +kernel⟩
theorem cw_X2_lay : CWf yX2_lay cX2_lay 6 (some .int) RX2 3 := ⟨mem_g (i := 699) (by decide +kernel) (by decide +kernel), mem_g (i := 697) (by decide +kernel) (by decide +kernel), mem_g (i := 698) (by decide +kernel) (by decide +kernel), mem_g (i := 84) (by decide +kernel) (by decide +kernel), rfl, by decide, by decide, by decide +kernel⟩
theorem cw_X2_placeOf : CWf yX2_placeOf cX2_placeOf 3 (some .int) RX2 2 := ⟨mem_g (i := 703) (by decide +kernel) (by decide +kernel), mem_g (i := 702) (by decide +kernel) (by decide +kernel), mem_g (i := 50) (by decide +kernel) (by decide +kernel), mem_g (i := 84) (by decide +kernel) (by decide +kernel), rfl, by decide, by decide, by decide +kernel⟩
theorem cw_X2_tells : CWf yX2_tells cX2_tells 3 (some .int) RX2 2 := ⟨mem_g (i := 707) (by decide +kernel) (by decide +kernel), mem_g (i := 706) (by decide +kernel) (by decide +kernel), mem_g (i := 51) (by decide +kernel) (by decide +kernel), mem_g (i := 84) (by decide +kernel) (by decide +kernel), rfl, by decide, by decide, by decide +kernel⟩
theorem cw_X2_at : CWf yX2_at cX2_at 4 (some .int) RX2 2 := ⟨mem_g (i := 711) (by decide +kernel) (by decide +kernel), mem_g (i := 709) (by decide +kernel) (by decide +kernel), mem_g (i := 710) (by decide +kernel) (by decide +kernel), mem_g (i := 84) (by decide +kernel) (by decide +kernel), rfl, by decide, by decide, by decide +kernel⟩
theorem cw_X2_tear : CWf yX2_tear cX2_tear 2 (some .int) RX2 1 := ⟨mem_g (i := 715) (by decide +kernel) (by decide +kernel), mem_g (i := 713) (by decide +kernel) (by decide +kernel), mem_g (i := 714) (by decide +kernel) (by decide +kernel), mem_g (i := 84) (by decide +kernel) (by decide +kernel), rfl, by decide, by decide, by decide +kernel⟩
theorem cw_X2_copy : CWf yX2_copy cX2_copy 9 (some .int) RX2 5 := ⟨mem_g (i := 719) (by decide +kernel) (by decide +kernel), mem_g (i := 717) (by decide +kernel) (by decide +kernel), mem_g (i := 718) (by decide +kernel) (by decide +kernel), mem_g (i := 84) (by decide +kernel) (by decide +kernel), rfl, by decide, by decide, by decide +kernel⟩
theorem cw_X2_mean : CWf yX2_mean cX2_mean 5 (some .int) RX2 1 := ⟨mem_g (i := 723) (by decide +kernel) (by decide +kernel), mem_g (i := 721) (by decide +kernel) (by decide +kernel), mem_g (i := 722) (by decide +kernel) (by decide +kernel), mem_g (i := 84) (by decide +kernel) (by decide +kernel), rfl, by decide, by decide, by decide +kernel⟩
theorem cw_X2_text : CWf yX2_text cX2_text 4 (some .int) RX2 2 := ⟨mem_g (i := 727) (by decide +kernel) (by decide +kernel), mem_g (i := 725) (by decide +kernel) (by decide +kernel), mem_g (i := 726) (by decide +kernel) (by decide +kernel), mem_g (i := 84) (by decide +kernel) (by decide +kernel), rfl, by decide, by decide, by decide +kernel⟩
theorem cs_X2_isText : CSf yX2_isText cX2_isText 1 (some .boolean) 1 := ⟨mem_g (i := 730) (by decide +kernel) (by decide +kernel), mem_g (i := 729) (by decide +kernel) (by decide +kernel), mem_g (i := 84) (by decide +kernel) (by decide +kernel), by decide, by decide, by decide +kernel⟩
theorem cw_X2_put : CWf yX2_put cX2_put 5 (some .int) RX2 3 := ⟨mem_g (i := 734) (by decide +kernel) (by decide +kernel), mem_g (i := 732) (by decide +kernel) (by decide +kernel), mem_g (i := 733) (by decide +kernel) (by decide +kernel), mem_g (i := 84) (by decide +kernel) (by decide +kernel), rfl, by decide, by decide, by decide +kernel⟩
theorem cw_X2_fault : CWf yX2_fault cX2_fault 2 (some .int) RX2 1 := ⟨mem_g (i := 738) (by decide +kernel) (by decide +kernel), mem_g (i := 736) (by decide +kernel) (by decide +kernel), mem_g (i := 737) (by decide +kernel) (by decide +kernel), mem_g (i := 84) (by decide +kernel) (by decide +kernel), rfl, by decide, by decide, by decide +kernel⟩
theorem cw_X2_reading : CWf yX2_reading cX2_reading 6 (some .int) RX2 1 := ⟨mem_g (i := 742) (by decide +kernel) (by decide +kernel), mem_g (i := 741) (by decide +kernel) (by decide +kernel), mem_g (i := 52) (by decide +kernel) (by decide +kernel), mem_g (i := 84) (by decide +kernel) (by decide +kernel), rfl, by decide, by decide, by decide +kernel⟩
theorem cs_X2_kindBy : CSf yX2_kindBy cX2_kindBy 1 (some .int) 1 := ⟨mem_g (i := 745) (by decide +kernel) (by decide +kernel), mem_g (i := 744) (by decide +kernel) (by decide +kernel), mem_g (i := 84) (by decide +kernel) (by decide +kernel), by decide, by decide, by decide +kernel⟩
theorem cw_X2_store : CWf yX2_store cX2_store 3 (some .int) RX2 1 := ⟨mem_g (i := 749) (by decide +kernel) (by decide +kernel), mem_g (i := 747) (by decide +kernel) (by decide +kernel), mem_g (i := 748) (by decide +kernel) (by decide +kernel), mem_g (i := 84) (by decide +kernel) (by decide +kernel), rfl, by decide, by decide, by decide +kernel⟩
theorem cs_X2_bring : CSf yX2_bring cX2_bring 6 none 5 := ⟨mem_g (i := 752) (by decide +kernel) (by decide +kernel), mem_g (i := 751) (by decide +kernel) (by decide +kernel), mem_g (i := 84) (by decide +kernel) (by decide +kernel), by decide, by decide, by decide +kernel⟩
theorem cw_X2_tube : CWf yX2_tube cX2_tube 3 (some .int) RX2 2 := ⟨mem_g (i := 756) (by decide +kernel) (by decide +kernel), mem_g (i := 754) (by decide +kernel) (by decide +kernel), mem_g (i := 755) (by decide +kernel) (by decide +kernel), mem_g (i := 84) (by decide +kernel) (by decide +kernel), rfl, by decide, by decide, by decide +kernel⟩
theorem cw_X2_isTube : CWf yX2_isTube cX2_isTube 2 (some .boolean) RX2 1 := ⟨mem_g (i := 760) (by decide +kernel) (by decide +kernel), mem_g (i := 759) (by decide +kernel) (by decide +kernel), mem_g (i := 53) (by decide +kernel) (by decide +kernel), mem_g (i := 84) (by decide +kernel) (by decide +kernel), rfl, by decide, by decide, by decide +kernel⟩
theorem cw_X2_isReady : CWf yX2_isReady cX2_isReady 3 (some .boolean) RX2 2 := ⟨mem_g (i := 764) (by decide +kernel) (by decide +kernel), mem_g (i := 763) (by decide +kernel) (by decide +kernel), mem_g (i := 54) (by decide +kernel) (by decide +kernel), mem_g (i := 84) (by decide +kernel) (by decide +kernel), rfl, by decide, by decide, by decide +kernel⟩
theorem cw_X2_sentNow : CWf yX2_sentNow cX2_sentNow 3 (some .int) RX2 2 := ⟨mem_g (i := 768) (by decide +kernel) (by decide +kernel), mem_g (i := 767) (by decide +kernel) (by decide +kernel), mem_g (i := 55) (by decide +kernel) (by decide +kernel), mem_g (i := 84) (by decide +kernel) (by decide +kernel), rfl, by decide, by decide, by decide +kernel⟩
theorem cw_X2_fromWhich : CWf yX2_fromWhich cX2_fromWhich 5 (some .int) RX2 2 := ⟨mem_g (i := 772) (by decide +kernel) (by decide +kernel), mem_g (i := 771) (by decide +kernel) (by decide +kernel), mem_g (i := 56) (by decide +kernel) (by decide +kernel), mem_g (i := 84) (by decide +kernel) (by decide +kernel), rfl, by decide, by decide, by decide +kernel⟩
theorem cw_X2_outOf : CWf yX2_outOf cX2_outOf 3 (some .int) RX2 2 := ⟨mem_g (i := 776) (by decide +kernel) (by decide +kernel), mem_g (i := 775) (by decide +kernel) (by decide +kernel), mem_g (i := 57) (by decide +kernel) (by decide +kernel), mem_g (i := 84) (by decide +kernel) (by decide +kernel), rfl, by decide, by decide, by decide +kernel⟩
theorem cw_X2_sentBy : CWf yX2_sentBy cX2_sentBy 7 (some .int) RX2 4 := ⟨mem_g (i := 780) (by decide +kernel) (by decide +kernel), mem_g (i := 779) (by decide +kernel) (by decide +kernel), mem_g (i := 58) (by decide +kernel) (by decide +kernel), mem_g (i := 84) (by decide +kernel) (by decide +kernel), rfl, by decide, by decide, by decide +kernel⟩
theorem cw_X2_isMarked : CWf yX2_isMarked cX2_isMarked 3 (some .boolean) RX2 2 := ⟨mem_g (i := 784) (by decide +kernel) (by decide +kernel), mem_g (i := 783) (by decide +kernel) (by decide +kernel), mem_g (i := 59) (by decide +kernel) (by decide +kernel), mem_g (i := 84) (by decide +kernel) (by decide +kernel), rfl, by decide, by decide, by decide +kernel⟩
theorem cw_X2_mark : CWf yX2_mark cX2_mark 3 (some .int) RX2 2 := ⟨mem_g (i := 788) (by decide +kernel) (by decide +kernel), mem_g (i := 786) (by decide +kernel) (by decide +kernel), mem_g (i := 787) (by decide +kernel) (by decide +kernel), mem_g (i := 84) (by decide +kernel) (by decide +kernel), rfl, by decide, by decide, by decide +kernel⟩
theorem cw_X2_isA : CWf yX2_isA cX2_isA 3 (some .boolean) RX2 2 := ⟨mem_g (i := 792) (by decide +kernel) (by decide +kernel), mem_g (i := 791) (by decide +kernel) (by decide +kernel), mem_g (i := 60) (by decide +kernel) (by decide +kernel), mem_g (i := 84) (by decide +kernel) (by decide +kernel), rfl, by decide, by decide, by decide +kernel⟩
theorem cw_X2_tick : CWf yX2_tick cX2_tick 1 (some .int) RX2 0 := ⟨mem_g (i := 796) (by decide +kernel) (by decide +kernel), mem_g (i := 794) (by decide +kernel) (by decide +kernel), mem_g (i := 795) (by decide +kernel) (by decide +kernel), mem_g (i := 84) (by decide +kernel) (by decide +kernel), rfl, by decide, by decide, by decide +kernel⟩
theorem cw_X2_notes : CWf yX2_notes cX2_notes 1 none RX2 0 := ⟨mem_g (i := 800) (by decide +kernel) (by decide +kernel), mem_g (i := 799) (by decide +kernel) (by decide +kernel), mem_g (i := 61) (by decide +kernel) (by decide +kernel), mem_g (i := 84) (by decide +kernel) (by decide +kernel), rfl, by decide, by decide, by decide +kernel⟩
theorem cw_X2_tickOn : CWf yX2_tickOn cX2_tickOn 4 none RX2 1 := ⟨mem_g (i := 804) (by decide +kernel) (by decide +kernel), mem_g (i := 803) (by decide +kernel) (by decide +kernel), mem_g (i := 62) (by decide +kernel) (by decide +kernel), mem_g (i := 84) (by decide +kernel) (by decide +kernel), rfl, by decide, by decide, by decide +kernel⟩
theorem cw_X2_pulses : CWf yX2_pulses cX2_pulses 4 (some .int) RX2 1 := ⟨mem_g (i := 808) (by decide +kernel) (by decide +kernel), mem_g (i := 807) (by decide +kernel) (by decide +kernel), mem_g (i := 63) (by decide +kernel) (by decide +kernel), mem_g (i := 84) (by decide +kernel) (by decide +kernel), rfl, by decide, by decide, by decide +kernel⟩
theorem cs_X2_bits : CSf yX2_bits cX2_bits 3 (some .int) 1 := ⟨mem_g (i := 811) (by decide +kernel) (by decide +kernel), mem_g (i := 810) (by decide +kernel) (by decide +kernel), mem_g (i := 84) (by decide +kernel) (by decide +kernel), by decide, by decide, by decide +kernel⟩
theorem cw_X2_set : CWf yX2_set cX2_set 3 (some .int) RX2 2 := ⟨mem_g (i := 815) (by decide +kernel) (by decide +kernel), mem_g (i := 813) (by decide +kernel) (by decide +kernel), mem_g (i := 814) (by decide +kernel) (by decide +kernel), mem_g (i := 84) (by decide +kernel) (by decide +kernel), rfl, by decide, by decide, by decide +kernel⟩
theorem cw_X2_swap : CWf yX2_swap cX2_swap 3 (some .int) RX2 2 := ⟨mem_g (i := 819) (by decide +kernel) (by decide +kernel), mem_g (i := 817) (by decide +kernel) (by decide +kernel), mem_g (i := 818) (by decide +kernel) (by decide +kernel), mem_g (i := 84) (by decide +kernel) (by decide +kernel), rfl, by decide, by decide, by decide +kernel⟩
theorem cs_X2_swapped : CSf yX2_swapped cX2_swapped 4 none 3 := ⟨mem_g (i := 822) (by decide +kernel) (by decide +kernel), mem_g (i := 821) (by decide +kernel) (by decide +kernel), mem_g (i := 84) (by decide +kernel) (by decide +kernel), by decide, by decide, by decide +kernel⟩
theorem cw_X2_word : CWf yX2_word cX2_word 4 (some .int) RX2 2 := ⟨mem_g (i := 826) (by decide +kernel) (by decide +kernel), mem_g (i := 824) (by decide +kernel) (by decide +kernel), mem_g (i := 825) (by decide +kernel) (by decide +kernel), mem_g (i := 84) (by decide +kernel) (by decide +kernel), rfl, by decide, by decide, by decide +kernel⟩
theorem cw_X2_isWord : CWf yX2_isWord cX2_isWord 3 (some .boolean) RX2 2 := ⟨mem_g (i := 830) (by decide +kernel) (by decide +kernel), mem_g (i := 829) (by decide +kernel) (by decide +kernel), mem_g (i := 64) (by decide +kernel) (by decide +kernel), mem_g (i := 84) (by decide +kernel) (by decide +kernel), rfl, by decide, by decide, by decide +kernel⟩
theorem cw_X2_undo : CWf yX2_undo cX2_undo 3 (some .int) RX2 1 := ⟨mem_g (i := 834) (by decide +kernel) (by decide +kernel), mem_g (i := 832) (by decide +kernel) (by decide +kernel), mem_g (i := 833) (by decide +kernel) (by decide +kernel), mem_g (i := 84) (by decide +kernel) (by decide +kernel), rfl, by decide, by decide, by decide +kernel⟩
theorem cw_X2_keep : CWf yX2_keep cX2_keep 3 (some .int) RX2 1 := ⟨mem_g (i := 838) (by decide +kernel) (by decide +kernel), mem_g (i := 836) (by decide +kernel) (by decide +kernel), mem_g (i := 837) (by decide +kernel) (by decide +kernel), mem_g (i := 84) (by decide +kernel) (by decide +kernel), rfl, by decide, by decide, by decide +kernel⟩
theorem cw_X2_on : CWf yX2_on cX2_on 3 (some .int) RX2 1 := ⟨mem_g (i := 842) (by decide +kernel) (by decide +kernel), mem_g (i := 840) (by decide +kernel) (by decide +kernel), mem_g (i := 841) (by decide +kernel) (by decide +kernel), mem_g (i := 84) (by decide +kernel) (by decide +kernel), rfl, by decide, by decide, by decide +kernel⟩
theorem cw_X2_later : CWf yX2_later cX2_later 3 (some .int) RX2 2 := ⟨mem_g (i := 846) (by decide +kernel) (by decide +kernel), mem_g (i := 844) (by decide +kernel) (by decide +kernel), mem_g (i := 845) (by decide +kernel) (by decide +kernel), mem_g (i := 84) (by decide +kernel) (by decide +kernel), rfl, by decide, by decide, by decide +kernel⟩
theorem cw_X2_asItIs : CWf yX2_asItIs cX2_asItIs 1 none RX2 0 := ⟨mem_g (i := 850) (by decide +kernel) (by decide +kernel), mem_g (i := 849) (by decide +kernel) (by decide +kernel), mem_g (i := 65) (by decide +kernel) (by decide +kernel), mem_g (i := 84) (by decide +kernel) (by decide +kernel), rfl, by decide, by decide, by decide +kernel⟩
theorem cw_X2_goes : CWf yX2_goes cX2_goes 3 none RX2 1 := ⟨mem_g (i := 854) (by decide +kernel) (by decide +kernel), mem_g (i := 853) (by decide +kernel) (by decide +kernel), mem_g (i := 66) (by decide +kernel) (by decide +kernel), mem_g (i := 84) (by decide +kernel) (by decide +kernel), rfl, by decide, by decide, by decide +kernel⟩
theorem cw_X2_hears : CWf yX2_hears cX2_hears 8 (some .int) RX2 3 := ⟨mem_g (i := 858) (by decide +kernel) (by decide +kernel), mem_g (i := 856) (by decide +kernel) (by decide +kernel), mem_g (i := 857) (by decide +kernel) (by decide +kernel), mem_g (i := 84) (by decide +kernel) (by decide +kernel), rfl, by decide, by decide, by decide +kernel⟩
theorem cw_X2_finds : CWf yX2_finds cX2_finds 10 (some .int) RX2 3 := ⟨mem_g (i := 862) (by decide +kernel) (by decide +kernel), mem_g (i := 860) (by decide +kernel) (by decide +kernel), mem_g (i := 861) (by decide +kernel) (by decide +kernel), mem_g (i := 84) (by decide +kernel) (by decide +kernel), rfl, by decide, by decide, by decide +kernel⟩
theorem cw_X2_round : CWf yX2_round cX2_round 5 (some .int) RX2 0 := ⟨mem_g (i := 866) (by decide +kernel) (by decide +kernel), mem_g (i := 864) (by decide +kernel) (by decide +kernel), mem_g (i := 865) (by decide +kernel) (by decide +kernel), mem_g (i := 84) (by decide +kernel) (by decide +kernel), rfl, by decide, by decide, by decide +kernel⟩
theorem cw_X2_left : CWf yX2_left cX2_left 4 (some .int) RX2 1 := ⟨mem_g (i := 870) (by decide +kernel) (by decide +kernel), mem_g (i := 868) (by decide +kernel) (by decide +kernel), mem_g (i := 869) (by decide +kernel) (by decide +kernel), mem_g (i := 84) (by decide +kernel) (by decide +kernel), rfl, by decide, by decide, by decide +kernel⟩
theorem cw_X2_best : CWf yX2_best cX2_best 7 (some .int) RX2 1 := ⟨mem_g (i := 874) (by decide +kernel) (by decide +kernel), mem_g (i := 872) (by decide +kernel) (by decide +kernel), mem_g (i := 873) (by decide +kernel) (by decide +kernel), mem_g (i := 84) (by decide +kernel) (by decide +kernel), rfl, by decide, by decide, by decide +kernel⟩
theorem cw_X2_safest : CWf yX2_safest cX2_safest 6 (some .int) RX2 1 := ⟨mem_g (i := 878) (by decide +kernel) (by decide +kernel), mem_g (i := 876) (by decide +kernel) (by decide +kernel), mem_g (i := 877) (by decide +kernel) (by decide +kernel), mem_g (i := 84) (by decide +kernel) (by decide +kernel), rfl, by decide, by decide, by decide +kernel⟩
theorem cw_X2_againBy : CWf yX2_againBy cX2_againBy 4 (some .int) RX2 2 := ⟨mem_g (i := 882) (by decide +kernel) (by decide +kernel), mem_g (i := 881) (by decide +kernel) (by decide +kernel), mem_g (i := 67) (by decide +kernel) (by decide +kernel), mem_g (i := 84) (by decide +kernel) (by decide +kernel), rfl, by decide, by decide, by decide +kernel⟩
theorem cw_X2_kinds : CWf yX2_kinds cX2_kinds 4 (some .int) RX2 2 := ⟨mem_g (i := 886) (by decide +kernel) (by decide +kernel), mem_g (i := 884) (by decide +kernel) (by decide +kernel), mem_g (i := 885) (by decide +kernel) (by decide +kernel), mem_g (i := 84) (by decide +kernel) (by decide +kernel), rfl, by decide, by decide, by decide +kernel⟩
theorem cw_X2_heardOf : CWf yX2_heardOf cX2_heardOf 4 (some .int) RX2 1 := ⟨mem_g (i := 890) (by decide +kernel) (by decide +kernel), mem_g (i := 889) (by decide +kernel) (by decide +kernel), mem_g (i := 68) (by decide +kernel) (by decide +kernel), mem_g (i := 84) (by decide +kernel) (by decide +kernel), rfl, by decide, by decide, by decide +kernel⟩
theorem cw_X2_kindsOf : CWf yX2_kindsOf cX2_kindsOf 6 (some .int) RX2 2 := ⟨mem_g (i := 894) (by decide +kernel) (by decide +kernel), mem_g (i := 893) (by decide +kernel) (by decide +kernel), mem_g (i := 69) (by decide +kernel) (by decide +kernel), mem_g (i := 84) (by decide +kernel) (by decide +kernel), rfl, by decide, by decide, by decide +kernel⟩
theorem cw_X2_isHeard : CWf yX2_isHeard cX2_isHeard 6 (some .boolean) RX2 2 := ⟨mem_g (i := 898) (by decide +kernel) (by decide +kernel), mem_g (i := 897) (by decide +kernel) (by decide +kernel), mem_g (i := 70) (by decide +kernel) (by decide +kernel), mem_g (i := 84) (by decide +kernel) (by decide +kernel), rfl, by decide, by decide, by decide +kernel⟩
theorem cw_X2_words : CWf yX2_words cX2_words 7 (some .int) RX2 2 := ⟨mem_g (i := 902) (by decide +kernel) (by decide +kernel), mem_g (i := 900) (by decide +kernel) (by decide +kernel), mem_g (i := 901) (by decide +kernel) (by decide +kernel), mem_g (i := 84) (by decide +kernel) (by decide +kernel), rfl, by decide, by decide, by decide +kernel⟩
theorem cw_X2_test : CWf yX2_test cX2_test 9 (some .int) RX2 2 := ⟨mem_g (i := 906) (by decide +kernel) (by decide +kernel), mem_g (i := 904) (by decide +kernel) (by decide +kernel), mem_g (i := 905) (by decide +kernel) (by decide +kernel), mem_g (i := 84) (by decide +kernel) (by decide +kernel), rfl, by decide, by decide, by decide +kernel⟩
theorem cw_X2_greatest : CWf yX2_greatest cX2_greatest 9 (some .int) RX2 3 := ⟨mem_g (i := 910) (by decide +kernel) (by decide +kernel), mem_g (i := 909) (by decide +kernel) (by decide +kernel), mem_g (i := 71) (by decide +kernel) (by decide +kernel), mem_g (i := 84) (by decide +kernel) (by decide +kernel), rfl, by decide, by decide, by decide +kernel⟩
theorem cw_X2_duel : CWf yX2_duel cX2_duel 7 (some .int) RX2 1 := ⟨mem_g (i := 914) (by decide +kernel) (by decide +kernel), mem_g (i := 912) (by decide +kernel) (by decide +kernel), mem_g (i := 913) (by decide +kernel) (by decide +kernel), mem_g (i := 84) (by decide +kernel) (by decide +kernel), rfl, by decide, by decide, by decide +kernel⟩
theorem cw_X2_worthOf : CWf yX2_worthOf cX2_worthOf 5 (some .int) RX2 2 := ⟨mem_g (i := 918) (by decide +kernel) (by decide +kernel), mem_g (i := 917) (by decide +kernel) (by decide +kernel), mem_g (i := 72) (by decide +kernel) (by decide +kernel), mem_g (i := 84) (by decide +kernel) (by decide +kernel), rfl, by decide, by decide, by decide +kernel⟩
theorem cw_X2_odds : CWf yX2_odds cX2_odds 4 (some .int) RX2 3 := ⟨mem_g (i := 922) (by decide +kernel) (by decide +kernel), mem_g (i := 920) (by decide +kernel) (by decide +kernel), mem_g (i := 921) (by decide +kernel) (by decide +kernel), mem_g (i := 84) (by decide +kernel) (by decide +kernel), rfl, by decide, by decide, by decide +kernel⟩
theorem cw_X2_failing : CWf yX2_failing cX2_failing 13 (some .int) RX2 3 := ⟨mem_g (i := 926) (by decide +kernel) (by decide +kernel), mem_g (i := 925) (by decide +kernel) (by decide +kernel), mem_g (i := 73) (by decide +kernel) (by decide +kernel), mem_g (i := 84) (by decide +kernel) (by decide +kernel), rfl, by decide, by decide, by decide +kernel⟩
theorem cw_X2_tellsPart : CWf yX2_tellsPart cX2_tellsPart 7 (some .int) RX2 2 := ⟨mem_g (i := 930) (by decide +kernel) (by decide +kernel), mem_g (i := 929) (by decide +kernel) (by decide +kernel), mem_g (i := 74) (by decide +kernel) (by decide +kernel), mem_g (i := 84) (by decide +kernel) (by decide +kernel), rfl, by decide, by decide, by decide +kernel⟩
theorem cs_X2_common : CSf yX2_common cX2_common 10 (some .long) 2 := ⟨mem_g (i := 933) (by decide +kernel) (by decide +kernel), mem_g (i := 932) (by decide +kernel) (by decide +kernel), mem_g (i := 84) (by decide +kernel) (by decide +kernel), by decide, by decide, by decide +kernel⟩
theorem cw_X2_mid : CWf yX2_mid cX2_mid 3 (some .int) RX2 2 := ⟨mem_g (i := 937) (by decide +kernel) (by decide +kernel), mem_g (i := 935) (by decide +kernel) (by decide +kernel), mem_g (i := 936) (by decide +kernel) (by decide +kernel), mem_g (i := 84) (by decide +kernel) (by decide +kernel), rfl, by decide, by decide, by decide +kernel⟩
theorem cw_X2_lots : CWf yX2_lots cX2_lots 6 (some .int) RX2 2 := ⟨mem_g (i := 941) (by decide +kernel) (by decide +kernel), mem_g (i := 939) (by decide +kernel) (by decide +kernel), mem_g (i := 940) (by decide +kernel) (by decide +kernel), mem_g (i := 84) (by decide +kernel) (by decide +kernel), rfl, by decide, by decide, by decide +kernel⟩
theorem cw_X2_lot : CWf yX2_lot cX2_lot 3 none RX2 1 := ⟨mem_g (i := 948) (by decide +kernel) (by decide +kernel), mem_g (i := 947) (by decide +kernel) (by decide +kernel), mem_g (i := 75) (by decide +kernel) (by decide +kernel), mem_g (i := 84) (by decide +kernel) (by decide +kernel), rfl, by decide, by decide, by decide +kernel⟩
theorem cw_X2_asked : CWf yX2_asked cX2_asked 1 (some .int) RX2 0 := ⟨mem_g (i := 952) (by decide +kernel) (by decide +kernel), mem_g (i := 950) (by decide +kernel) (by decide +kernel), mem_g (i := 951) (by decide +kernel) (by decide +kernel), mem_g (i := 84) (by decide +kernel) (by decide +kernel), rfl, by decide, by decide, by decide +kernel⟩
theorem cw_X2_upper : CWf yX2_upper cX2_upper 1 (some .long) RX2 0 := ⟨mem_g (i := 956) (by decide +kernel) (by decide +kernel), mem_g (i := 954) (by decide +kernel) (by decide +kernel), mem_g (i := 955) (by decide +kernel) (by decide +kernel), mem_g (i := 84) (by decide +kernel) (by decide +kernel), rfl, by decide, by decide, by decide +kernel⟩
theorem cw_X2_lower : CWf yX2_lower cX2_lower 1 (some .long) RX2 0 := ⟨mem_g (i := 960) (by decide +kernel) (by decide +kernel), mem_g (i := 958) (by decide +kernel) (by decide +kernel), mem_g (i := 959) (by decide +kernel) (by decide +kernel), mem_g (i := 84) (by decide +kernel) (by decide +kernel), rfl, by decide, by decide, by decide +kernel⟩
theorem cw_X2_count : CWf yX2_count cX2_count 2 (some .int) RX2 1 := ⟨mem_g (i := 964) (by decide +kernel) (by decide +kernel), mem_g (i := 962) (by decide +kernel) (by decide +kernel), mem_g (i := 963) (by decide +kernel) (by decide +kernel), mem_g (i := 84) (by decide +kernel) (by decide +kernel), rfl, by decide, by decide, by decide +kernel⟩
theorem cw_X2_slots : CWf yX2_slots cX2_slots 3 (some .int) RX2 0 := ⟨mem_g (i := 968) (by decide +kernel) (by decide +kernel), mem_g (i := 967) (by decide +kernel) (by decide +kernel), mem_g (i := 76) (by decide +kernel) (by decide +kernel), mem_g (i := 84) (by decide +kernel) (by decide +kernel), rfl, by decide, by decide, by decide +kernel⟩
theorem cw_X2_empties : CWf yX2_empties cX2_empties 3 (some .int) RX2 0 := ⟨mem_g (i := 972) (by decide +kernel) (by decide +kernel), mem_g (i := 971) (by decide +kernel) (by decide +kernel), mem_g (i := 77) (by decide +kernel) (by decide +kernel), mem_g (i := 84) (by decide +kernel) (by decide +kernel), rfl, by decide, by decide, by decide +kernel⟩
theorem cs_X2_there : CSf yX2_there cX2_there 3 (some .int) 1 := ⟨mem_g (i := 975) (by decide +kernel) (by decide +kernel), mem_g (i := 974) (by decide +kernel) (by decide +kernel), mem_g (i := 84) (by decide +kernel) (by decide +kernel), by decide, by decide, by decide +kernel⟩
theorem cw_X2_keptMany : CWf yX2_keptMany cX2_keptMany 3 (some .int) RX2 0 := ⟨mem_g (i := 979) (by decide +kernel) (by decide +kernel), mem_g (i := 978) (by decide +kernel) (by decide +kernel), mem_g (i := 78) (by decide +kernel) (by decide +kernel), mem_g (i := 84) (by decide +kernel) (by decide +kernel), rfl, by decide, by decide, by decide +kernel⟩
theorem cw_X2_those : CWf yX2_those cX2_those 4 (some .int) RX2 1 := ⟨mem_g (i := 983) (by decide +kernel) (by decide +kernel), mem_g (i := 982) (by decide +kernel) (by decide +kernel), mem_g (i := 79) (by decide +kernel) (by decide +kernel), mem_g (i := 84) (by decide +kernel) (by decide +kernel), rfl, by decide, by decide, by decide +kernel⟩
theorem cw_X2_finding : CWf yX2_finding cX2_finding 1 (some .int) RX2 0 := ⟨mem_g (i := 987) (by decide +kernel) (by decide +kernel), mem_g (i := 985) (by decide +kernel) (by decide +kernel), mem_g (i := 986) (by decide +kernel) (by decide +kernel), mem_g (i := 84) (by decide +kernel) (by decide +kernel), rfl, by decide, by decide, by decide +kernel⟩
theorem cw_X2_findings : CWf yX2_findings cX2_findings 2 (some .int) RX2 1 := ⟨mem_g (i := 991) (by decide +kernel) (by decide +kernel), mem_g (i := 989) (by decide +kernel) (by decide +kernel), mem_g (i := 990) (by decide +kernel) (by decide +kernel), mem_g (i := 84) (by decide +kernel) (by decide +kernel), rfl, by decide, by decide, by decide +kernel⟩
theorem cw_X2_digest : CWf yX2_digest cX2_digest 5 (some .long) RX2 0 := ⟨mem_g (i := 995) (by decide +kernel) (by decide +kernel), mem_g (i := 993) (by decide +kernel) (by decide +kernel), mem_g (i := 994) (by decide +kernel) (by decide +kernel), mem_g (i := 84) (by decide +kernel) (by decide +kernel), rfl, by decide, by decide, by decide +kernel⟩
theorem cw_X2_tubeOf : CWf yX2_tubeOf cX2_tubeOf 5 (some .int) RX2 2 := ⟨mem_g (i := 1002) (by decide +kernel) (by decide +kernel), mem_g (i := 1001) (by decide +kernel) (by decide +kernel), mem_g (i := 80) (by decide +kernel) (by decide +kernel), mem_g (i := 84) (by decide +kernel) (by decide +kernel), rfl, by decide, by decide, by decide +kernel⟩
end
section
def CCl (ad : Nat → Nat) (cy : Nat → ClassId) (fi : Nat → Int32) (fl : Nat → Int64) : List va_E := [.inr (1, [.ref (ad 1), .ref (ad 8), .ref (ad 9), .ref (ad 14), .ref (ad 15), .ref (ad 22), .ref (ad 29), .int (fi 7), .ref (ad 30), .ref (ad 34), .ref (ad 35), .ref (ad 42), .int (fi 12), .int (fi 13), .long (fl 14), .long (fl 15)]),
  .inl (cy 3, 6, .inr (.inr (.inr (.inr (fun j => if j < 6 then some (ad (2 + j)) else none))))),
  .inl (cy 0, 40, .inl fi),
  .inl (cy 0, 40, .inl fi),
  .inl (cy 0, 40, .inl fi),
  .inl (cy 0, 40, .inl fi),
  .inl (cy 0, 40, .inl fi),
  .inl (cy 0, 40, .inl fi),
  .inl (cy 0, 6, .inl fi),
  .inl (cy 4, 4, .inr (.inr (.inr (.inr (fun j => if j < 4 then some (ad (10 + j)) else none))))),
  .inl (cy 1, 60, .inl fi),
  .inl (cy 1, 60, .inl fi),
  .inl (cy 1, 60, .inl fi),
  .inl (cy 1, 60, .inl fi),
  .inl (cy 0, 4, .inl fi),
  .inr (0, [.ref (ad 16), .ref (ad 17), .ref (ad 18), .ref (ad 19), .ref (ad 20), .ref (ad 21), .int (fi 6), .int (fi 7)]),
  .inl (cy 0, 7, .inl fi),
  .inl (cy 0, 7, .inl fi),
  .inl (cy 0, 7, .inl fi),
  .inl (cy 0, 7, .inl fi),
  .inl (cy 0, 7, .inl fi),
  .inl (cy 0, 7, .inl fi),
  .inr (0, [.ref (ad 23), .ref (ad 24), .ref (ad 25), .ref (ad 26), .ref (ad 27), .ref (ad 28), .int (fi 6), .int (fi 7)]),
  .inl (cy 0, 7, .inl fi),
  .inl (cy 0, 7, .inl fi),
  .inl (cy 0, 7, .inl fi),
  .inl (cy 0, 7, .inl fi),
  .inl (cy 0, 7, .inl fi),
  .inl (cy 0, 7, .inl fi),
  .inl (cy 0, 40, .inl fi),
  .inl (cy 3, 3, .inr (.inr (.inr (.inr (fun j => if j < 3 then some (ad (31 + j)) else none))))),
  .inl (cy 0, 40, .inl fi),
  .inl (cy 0, 40, .inl fi),
  .inl (cy 0, 40, .inl fi),
  .inl (cy 0, 3, .inl fi),
  .inl (cy 3, 6, .inr (.inr (.inr (.inr (fun j => if j < 6 then some (ad (36 + j)) else none))))),
  .inl (cy 0, 20, .inl fi),
  .inl (cy 0, 20, .inl fi),
  .inl (cy 0, 20, .inl fi),
  .inl (cy 0, 20, .inl fi),
  .inl (cy 0, 20, .inl fi),
  .inl (cy 0, 20, .inl fi),
  .inl (cy 0, 6, .inl fi)]
def CC (ad : Nat → Nat) (cy : Nat → ClassId) : CF := fun k fi fl => (CCl ad cy fi fl).getD k (.inr (0, []))
def CMl (ad : Nat → Nat) (cy : Nat → ClassId) (fi : Nat → Int32) (fl : Nat → Int64) : List va_E := [.inr (2, [.ref (ad 1), .ref (ad 2), .ref (ad 3), .ref (ad 4), .int (fi 4), .ref (ad 5), .ref (ad 6), .ref (ad 7), .ref (ad 8), .ref (ad 9), .ref (ad 10), .int (fi 11), .ref (ad 11), .ref (ad 12), .int (fi 14), .long (fl 15), .long (fl 16), .int (fi 17), .ref (ad 13), .int (fi 19), .ref (ad 14), .ref (ad 15), .ref (ad 16), .ref (ad 17), .ref (ad 18), .ref (ad 19)]),
  .inl (cy 0, 6, .inl fi),
  .inl (cy 0, 240, .inl fi),
  .inl (cy 0, 4, .inl fi),
  .inl (cy 0, 240, .inl fi),
  .inl (cy 0, 7, .inl fi),
  .inl (cy 0, 7, .inl fi),
  .inl (cy 0, 7, .inl fi),
  .inl (cy 0, 15, .inl fi),
  .inl (cy 0, 15, .inl fi),
  .inl (cy 0, 600, .inl fi),
  .inl (cy 0, 1848, .inl fi),
  .inl (cy 2, 3, .inl fi),
  .inl (cy 0, 6, .inl fi),
  .inl (cy 0, 7, .inl fi),
  .inl (cy 0, 7, .inl fi),
  .inl (cy 0, 7, .inl fi),
  .inl (cy 0, 7, .inl fi),
  .inl (cy 0, 6, .inl fi),
  .inl (cy 0, 512, .inl fi)]
def CM (ad : Nat → Nat) (cy : Nat → ClassId) : CF := fun k fi fl => (CMl ad cy fi fl).getD k (.inr (0, []))
theorem iG_rows {ad : Nat → Nat} {cy : Nat → ClassId} : isG ad (CC ad cy) 43 1 (cy 3) 6 2 := ⟨by decide, fun _ _ => rfl⟩
theorem iA_rows_r {ad : Nat → Nat} {cy : Nat → ClassId} {r : Nat} (h : r < 6) : isA (CC ad cy) 43 (2 + r) (cy 0) 40 := by
  rcases (show r = 0 ∨ r = 1 ∨ r = 2 ∨ r = 3 ∨ r = 4 ∨ r = 5 by omega) with rfl | rfl | rfl | rfl | rfl | rfl <;> exact ⟨by decide, fun _ _ => rfl⟩
theorem iA_rowSizes {ad : Nat → Nat} {cy : Nat → ClassId} : isA (CC ad cy) 43 8 (cy 0) 6 := ⟨by decide, fun _ _ => rfl⟩
theorem iG_texts {ad : Nat → Nat} {cy : Nat → ClassId} : isG ad (CC ad cy) 43 9 (cy 4) 4 10 := ⟨by decide, fun _ _ => rfl⟩
theorem iA_texts_r {ad : Nat → Nat} {cy : Nat → ClassId} {r : Nat} (h : r < 4) : isA (CC ad cy) 43 (10 + r) (cy 1) 60 := by
  rcases (show r = 0 ∨ r = 1 ∨ r = 2 ∨ r = 3 by omega) with rfl | rfl | rfl | rfl <;> exact ⟨by decide, fun _ _ => rfl⟩
theorem iA_textSizes {ad : Nat → Nat} {cy : Nat → ClassId} : isA (CC ad cy) 43 14 (cy 0) 4 := ⟨by decide, fun _ _ => rfl⟩
theorem iA_deeds {ad : Nat → Nat} {cy : Nat → ClassId} : isA (CC ad cy) 43 29 (cy 0) 40 := ⟨by decide, fun _ _ => rfl⟩
theorem iG_keptDeeds {ad : Nat → Nat} {cy : Nat → ClassId} : isG ad (CC ad cy) 43 30 (cy 3) 3 31 := ⟨by decide, fun _ _ => rfl⟩
theorem iA_keptDeeds_r {ad : Nat → Nat} {cy : Nat → ClassId} {r : Nat} (h : r < 3) : isA (CC ad cy) 43 (31 + r) (cy 0) 40 := by
  rcases (show r = 0 ∨ r = 1 ∨ r = 2 by omega) with rfl | rfl | rfl <;> exact ⟨by decide, fun _ _ => rfl⟩
theorem iA_keptSizes {ad : Nat → Nat} {cy : Nat → ClassId} : isA (CC ad cy) 43 34 (cy 0) 3 := ⟨by decide, fun _ _ => rfl⟩
theorem iG_looks {ad : Nat → Nat} {cy : Nat → ClassId} : isG ad (CC ad cy) 43 35 (cy 3) 6 36 := ⟨by decide, fun _ _ => rfl⟩
theorem iA_looks_r {ad : Nat → Nat} {cy : Nat → ClassId} {r : Nat} (h : r < 6) : isA (CC ad cy) 43 (36 + r) (cy 0) 20 := by
  rcases (show r = 0 ∨ r = 1 ∨ r = 2 ∨ r = 3 ∨ r = 4 ∨ r = 5 by omega) with rfl | rfl | rfl | rfl | rfl | rfl <;> exact ⟨by decide, fun _ _ => rfl⟩
theorem iA_findingCounts {ad : Nat → Nat} {cy : Nat → ClassId} : isA (CC ad cy) 43 42 (cy 0) 6 := ⟨by decide, fun _ _ => rfl⟩
def isSt (o : Nat) : Prop := o = 15 ∨ o = 22
theorem isSt15 : isSt 15 := Or.inl rfl
theorem isSt22 : isSt 22 := Or.inr rfl
theorem iA_st1 {ad : Nat → Nat} {cy : Nat → ClassId} {o : Nat} (h : isSt o) : isA (CC ad cy) 43 (o + 1) (cy 0) 7 := by
  rcases h with rfl | rfl <;> exact ⟨by decide, fun _ _ => rfl⟩
theorem iA_st2 {ad : Nat → Nat} {cy : Nat → ClassId} {o : Nat} (h : isSt o) : isA (CC ad cy) 43 (o + 2) (cy 0) 7 := by
  rcases h with rfl | rfl <;> exact ⟨by decide, fun _ _ => rfl⟩
theorem iA_st3 {ad : Nat → Nat} {cy : Nat → ClassId} {o : Nat} (h : isSt o) : isA (CC ad cy) 43 (o + 3) (cy 0) 7 := by
  rcases h with rfl | rfl <;> exact ⟨by decide, fun _ _ => rfl⟩
theorem iA_st4 {ad : Nat → Nat} {cy : Nat → ClassId} {o : Nat} (h : isSt o) : isA (CC ad cy) 43 (o + 4) (cy 0) 7 := by
  rcases h with rfl | rfl <;> exact ⟨by decide, fun _ _ => rfl⟩
theorem iA_st5 {ad : Nat → Nat} {cy : Nat → ClassId} {o : Nat} (h : isSt o) : isA (CC ad cy) 43 (o + 5) (cy 0) 7 := by
  rcases h with rfl | rfl <;> exact ⟨by decide, fun _ _ => rfl⟩
theorem iA_st6 {ad : Nat → Nat} {cy : Nat → ClassId} {o : Nat} (h : isSt o) : isA (CC ad cy) 43 (o + 6) (cy 0) 7 := by
  rcases h with rfl | rfl <;> exact ⟨by decide, fun _ _ => rfl⟩
theorem iO_st {ad : Nat → Nat} {cy : Nat → ClassId} {o : Nat} (h : isSt o) : isO (CC ad cy) 43 o RX0 := by
  rcases h with rfl | rfl <;> exact ⟨by decide, 0, _, rfl, rfl, fun _ _ => ⟨_, rfl⟩⟩
theorem iO_X1 {ad : Nat → Nat} {cy : Nat → ClassId} : isO (CC ad cy) 43 0 RX1 := ⟨by decide, 1, _, rfl, rfl, fun _ _ => ⟨_, rfl⟩⟩
theorem iO_X2 {ad : Nat → Nat} {cy : Nat → ClassId} : isO (CM ad cy) 20 0 RX2 := ⟨by decide, 2, _, rfl, rfl, fun _ _ => ⟨_, rfl⟩⟩
theorem iM_rowSize {ad : Nat → Nat} {cy : Nat → ClassId} : isA (CM ad cy) 20 1 (cy 0) 6 := ⟨by decide, fun _ _ => rfl⟩
theorem iM_rows {ad : Nat → Nat} {cy : Nat → ClassId} : isA (CM ad cy) 20 2 (cy 0) 240 := ⟨by decide, fun _ _ => rfl⟩
theorem iM_textSize {ad : Nat → Nat} {cy : Nat → ClassId} : isA (CM ad cy) 20 3 (cy 0) 4 := ⟨by decide, fun _ _ => rfl⟩
theorem iM_texts {ad : Nat → Nat} {cy : Nat → ClassId} : isA (CM ad cy) 20 4 (cy 0) 240 := ⟨by decide, fun _ _ => rfl⟩
theorem iM_kind {ad : Nat → Nat} {cy : Nat → ClassId} : isA (CM ad cy) 20 5 (cy 0) 7 := ⟨by decide, fun _ _ => rfl⟩
theorem iM_size {ad : Nat → Nat} {cy : Nat → ClassId} : isA (CM ad cy) 20 6 (cy 0) 7 := ⟨by decide, fun _ _ => rfl⟩
theorem iM_mark {ad : Nat → Nat} {cy : Nat → ClassId} : isA (CM ad cy) 20 7 (cy 0) 7 := ⟨by decide, fun _ _ => rfl⟩
theorem iM_st {ad : Nat → Nat} {cy : Nat → ClassId} : isA (CM ad cy) 20 8 (cy 0) 15 := ⟨by decide, fun _ _ => rfl⟩
theorem iM_now {ad : Nat → Nat} {cy : Nat → ClassId} : isA (CM ad cy) 20 9 (cy 0) 15 := ⟨by decide, fun _ _ => rfl⟩
theorem iM_book {ad : Nat → Nat} {cy : Nat → ClassId} : isA (CM ad cy) 20 10 (cy 0) 600 := ⟨by decide, fun _ _ => rfl⟩
theorem iM_kept {ad : Nat → Nat} {cy : Nat → ClassId} : isA (CM ad cy) 20 11 (cy 0) 1848 := ⟨by decide, fun _ _ => rfl⟩
theorem iM_isKept {ad : Nat → Nat} {cy : Nat → ClassId} : isA (CM ad cy) 20 12 (cy 2) 3 := ⟨by decide, fun _ _ => rfl⟩
theorem iM_findings {ad : Nat → Nat} {cy : Nat → ClassId} : isA (CM ad cy) 20 13 (cy 0) 6 := ⟨by decide, fun _ _ => rfl⟩
theorem iM_readKind {ad : Nat → Nat} {cy : Nat → ClassId} : isA (CM ad cy) 20 14 (cy 0) 7 := ⟨by decide, fun _ _ => rfl⟩
theorem iM_readSize {ad : Nat → Nat} {cy : Nat → ClassId} : isA (CM ad cy) 20 15 (cy 0) 7 := ⟨by decide, fun _ _ => rfl⟩
theorem iM_readMark {ad : Nat → Nat} {cy : Nat → ClassId} : isA (CM ad cy) 20 16 (cy 0) 7 := ⟨by decide, fun _ _ => rfl⟩
theorem iM_then {ad : Nat → Nat} {cy : Nat → ClassId} : isA (CM ad cy) 20 17 (cy 0) 7 := ⟨by decide, fun _ _ => rfl⟩
theorem iM_looks {ad : Nat → Nat} {cy : Nat → ClassId} : isA (CM ad cy) 20 18 (cy 0) 6 := ⟨by decide, fun _ _ => rfl⟩
theorem iM_worth {ad : Nat → Nat} {cy : Nat → ClassId} : isA (CM ad cy) 20 19 (cy 0) 512 := ⟨by decide, fun _ _ => rfl⟩
section G3
variable {p : Program} {l : Launch} {e : Env} {s : State} {m : MethodId} {args : Array Value} {below : List Frame} {meth : Method} {c : Code} {H : Heap} {locs : List Loc} {R : Room} {Q : State → Prop}
variable {cc : ByteArray} {pc nL : Nat} {ls : Array Slot} {rest : List Value} {D : va_G} {A : Nat → Prop} {cy : Nat → ClassId} {ad : Nat → Nat} {M : Mem}
theorem gf_X0_9 {o : Nat} (ho : isSt o) (X : Cx p s m args c cc nL RX0 D cy) (hW : Wd D 43 ad (CC ad cy) A s.heap M H locs) (hdg : decode cc pc = .ok (.getfield 9, 3)) (kk : W p l e R s m args below meth c H locs 0 0 Q (F0 m (pc + 3) ls (.ref (ad (o + 1)) :: rest))) : W p l e R s m args below meth c H locs 0 0 Q (F0 m pc ls (.ref (ad o) :: rest)) := by
  rcases ho with rfl | rfl
  · exact g_get X hW (k := 15) (by decide) rfl rfl inX0g 0 (by decide) (mem_g (i := 106) (by decide +kernel) (by decide +kernel)) rfl hdg kk
  · exact g_get X hW (k := 22) (by decide) rfl rfl inX0g 0 (by decide) (mem_g (i := 106) (by decide +kernel) (by decide +kernel)) rfl hdg kk
theorem gf_X1_240 {o : Nat} (ho : isSt o) (X : Cx p s m args c cc nL RX1 D cy) (hW : Wd D 43 ad (CC ad cy) A s.heap M H locs) (hdg : decode cc pc = .ok (.getfield 240, 3)) (kk : W p l e R s m args below meth c H locs 0 0 Q (F0 m (pc + 3) ls (.ref (ad (o + 1)) :: rest))) : W p l e R s m args below meth c H locs 0 0 Q (F0 m pc ls (.ref (ad o) :: rest)) := by
  rcases ho with rfl | rfl
  · exact g_getN (host := "TubeWords") X hW (k := 15) (by decide) rfl rfl inX0g 0 (by decide) (by decide +kernel) rfl hdg kk
  · exact g_getN (host := "TubeWords") X hW (k := 22) (by decide) rfl rfl inX0g 0 (by decide) (by decide +kernel) rfl hdg kk
theorem gf_X0_15 {o : Nat} (ho : isSt o) (X : Cx p s m args c cc nL RX0 D cy) (hW : Wd D 43 ad (CC ad cy) A s.heap M H locs) (hdg : decode cc pc = .ok (.getfield 15, 3)) (kk : W p l e R s m args below meth c H locs 0 0 Q (F0 m (pc + 3) ls (.ref (ad (o + 2)) :: rest))) : W p l e R s m args below meth c H locs 0 0 Q (F0 m pc ls (.ref (ad o) :: rest)) := by
  rcases ho with rfl | rfl
  · exact g_get X hW (k := 15) (by decide) rfl rfl inX0g 1 (by decide) (mem_g (i := 108) (by decide +kernel) (by decide +kernel)) rfl hdg kk
  · exact g_get X hW (k := 22) (by decide) rfl rfl inX0g 1 (by decide) (mem_g (i := 108) (by decide +kernel) (by decide +kernel)) rfl hdg kk
theorem gf_X1_141 {o : Nat} (ho : isSt o) (X : Cx p s m args c cc nL RX1 D cy) (hW : Wd D 43 ad (CC ad cy) A s.heap M H locs) (hdg : decode cc pc = .ok (.getfield 141, 3)) (kk : W p l e R s m args below meth c H locs 0 0 Q (F0 m (pc + 3) ls (.ref (ad (o + 2)) :: rest))) : W p l e R s m args below meth c H locs 0 0 Q (F0 m pc ls (.ref (ad o) :: rest)) := by
  rcases ho with rfl | rfl
  · exact g_getN (host := "TubeWords") X hW (k := 15) (by decide) rfl rfl inX0g 1 (by decide) (by decide +kernel) rfl hdg kk
  · exact g_getN (host := "TubeWords") X hW (k := 22) (by decide) rfl rfl inX0g 1 (by decide) (by decide +kernel) rfl hdg kk
theorem gf_X0_18 {o : Nat} (ho : isSt o) (X : Cx p s m args c cc nL RX0 D cy) (hW : Wd D 43 ad (CC ad cy) A s.heap M H locs) (hdg : decode cc pc = .ok (.getfield 18, 3)) (kk : W p l e R s m args below meth c H locs 0 0 Q (F0 m (pc + 3) ls (.ref (ad (o + 3)) :: rest))) : W p l e R s m args below meth c H locs 0 0 Q (F0 m pc ls (.ref (ad o) :: rest)) := by
  rcases ho with rfl | rfl
  · exact g_get X hW (k := 15) (by decide) rfl rfl inX0g 2 (by decide) (mem_g (i := 110) (by decide +kernel) (by decide +kernel)) rfl hdg kk
  · exact g_get X hW (k := 22) (by decide) rfl rfl inX0g 2 (by decide) (mem_g (i := 110) (by decide +kernel) (by decide +kernel)) rfl hdg kk
theorem gf_X0_21 {o : Nat} (ho : isSt o) (X : Cx p s m args c cc nL RX0 D cy) (hW : Wd D 43 ad (CC ad cy) A s.heap M H locs) (hdg : decode cc pc = .ok (.getfield 21, 3)) (kk : W p l e R s m args below meth c H locs 0 0 Q (F0 m (pc + 3) ls (.ref (ad (o + 4)) :: rest))) : W p l e R s m args below meth c H locs 0 0 Q (F0 m pc ls (.ref (ad o) :: rest)) := by
  rcases ho with rfl | rfl
  · exact g_get X hW (k := 15) (by decide) rfl rfl inX0g 3 (by decide) (mem_g (i := 111) (by decide +kernel) (by decide +kernel)) rfl hdg kk
  · exact g_get X hW (k := 22) (by decide) rfl rfl inX0g 3 (by decide) (mem_g (i := 111) (by decide +kernel) (by decide +kernel)) rfl hdg kk
theorem gf_X1_144 {o : Nat} (ho : isSt o) (X : Cx p s m args c cc nL RX1 D cy) (hW : Wd D 43 ad (CC ad cy) A s.heap M H locs) (hdg : decode cc pc = .ok (.getfield 144, 3)) (kk : W p l e R s m args below meth c H locs 0 0 Q (F0 m (pc + 3) ls (.ref (ad (o + 4)) :: rest))) : W p l e R s m args below meth c H locs 0 0 Q (F0 m pc ls (.ref (ad o) :: rest)) := by
  rcases ho with rfl | rfl
  · exact g_getN (host := "TubeWords") X hW (k := 15) (by decide) rfl rfl inX0g 3 (by decide) (by decide +kernel) rfl hdg kk
  · exact g_getN (host := "TubeWords") X hW (k := 22) (by decide) rfl rfl inX0g 3 (by decide) (by decide +kernel) rfl hdg kk
theorem gf_X0_24 {o : Nat} (ho : isSt o) (X : Cx p s m args c cc nL RX0 D cy) (hW : Wd D 43 ad (CC ad cy) A s.heap M H locs) (hdg : decode cc pc = .ok (.getfield 24, 3)) (kk : W p l e R s m args below meth c H locs 0 0 Q (F0 m (pc + 3) ls (.ref (ad (o + 5)) :: rest))) : W p l e R s m args below meth c H locs 0 0 Q (F0 m pc ls (.ref (ad o) :: rest)) := by
  rcases ho with rfl | rfl
  · exact g_get X hW (k := 15) (by decide) rfl rfl inX0g 4 (by decide) (mem_g (i := 113) (by decide +kernel) (by decide +kernel)) rfl hdg kk
  · exact g_get X hW (k := 22) (by decide) rfl rfl inX0g 4 (by decide) (mem_g (i := 113) (by decide +kernel) (by decide +kernel)) rfl hdg kk
theorem gf_X1_147 {o : Nat} (ho : isSt o) (X : Cx p s m args c cc nL RX1 D cy) (hW : Wd D 43 ad (CC ad cy) A s.heap M H locs) (hdg : decode cc pc = .ok (.getfield 147, 3)) (kk : W p l e R s m args below meth c H locs 0 0 Q (F0 m (pc + 3) ls (.ref (ad (o + 5)) :: rest))) : W p l e R s m args below meth c H locs 0 0 Q (F0 m pc ls (.ref (ad o) :: rest)) := by
  rcases ho with rfl | rfl
  · exact g_getN (host := "TubeWords") X hW (k := 15) (by decide) rfl rfl inX0g 4 (by decide) (by decide +kernel) rfl hdg kk
  · exact g_getN (host := "TubeWords") X hW (k := 22) (by decide) rfl rfl inX0g 4 (by decide) (by decide +kernel) rfl hdg kk
theorem gf_X0_27 {o : Nat} (ho : isSt o) (X : Cx p s m args c cc nL RX0 D cy) (hW : Wd D 43 ad (CC ad cy) A s.heap M H locs) (hdg : decode cc pc = .ok (.getfield 27, 3)) (kk : W p l e R s m args below meth c H locs 0 0 Q (F0 m (pc + 3) ls (.ref (ad (o + 6)) :: rest))) : W p l e R s m args below meth c H locs 0 0 Q (F0 m pc ls (.ref (ad o) :: rest)) := by
  rcases ho with rfl | rfl
  · exact g_get X hW (k := 15) (by decide) rfl rfl inX0g 5 (by decide) (mem_g (i := 115) (by decide +kernel) (by decide +kernel)) rfl hdg kk
  · exact g_get X hW (k := 22) (by decide) rfl rfl inX0g 5 (by decide) (mem_g (i := 115) (by decide +kernel) (by decide +kernel)) rfl hdg kk
theorem gf_X0_30 {o : Nat} (ho : isSt o) (X : Cx p s m args c cc nL RX0 D cy) (hW : Wd D 43 ad (CC ad cy) A s.heap M H locs) (hdg : decode cc pc = .ok (.getfield 30, 3)) (kk : W p l e R s m args below meth c H locs 0 0 Q (F0 m (pc + 3) ls (.int (M.1 o 6) :: rest))) : W p l e R s m args below meth c H locs 0 0 Q (F0 m pc ls (.ref (ad o) :: rest)) := by
  rcases ho with rfl | rfl
  · exact g_get X hW (k := 15) (by decide) rfl rfl inX0g 6 (by decide) (mem_g (i := 116) (by decide +kernel) (by decide +kernel)) rfl hdg kk
  · exact g_get X hW (k := 22) (by decide) rfl rfl inX0g 6 (by decide) (mem_g (i := 116) (by decide +kernel) (by decide +kernel)) rfl hdg kk
theorem gp_X0_30 {o : Nat} (ho : isSt o) (X : Cx p s m args c cc nL RX0 D cy) (hW : Wd D 43 ad (CC ad cy) A s.heap M H locs) {v : Int32} (hdg : decode cc pc = .ok (.putfield 30, 3)) (kk : ∀ (H1 : Heap) (locs1 : List Loc), Wd D 43 ad (CC ad cy) A s.heap (sI M o 6 v) H1 locs1 → W p l e R s m args below meth c H1 locs1 0 0 Q (F0 m (pc + 3) ls (rest))) : W p l e R s m args below meth c H locs 0 0 Q (F0 m pc ls (.int v :: .ref (ad o) :: rest)) := by
  rcases ho with rfl | rfl
  · exact g_putI X hW (k := 15) (by decide) rfl rfl inX0g tyX0 tyX0_ok nmX0 6 (by decide) (mem_g (i := 116) (by decide +kernel) (by decide +kernel)) rfl rfl (show 6 < 8 from by decide) rfl hdg kk
  · exact g_putI X hW (k := 22) (by decide) rfl rfl inX0g tyX0 tyX0_ok nmX0 6 (by decide) (mem_g (i := 116) (by decide +kernel) (by decide +kernel)) rfl rfl (show 6 < 8 from by decide) rfl hdg kk
theorem gf_X1_108 {o : Nat} (ho : isSt o) (X : Cx p s m args c cc nL RX1 D cy) (hW : Wd D 43 ad (CC ad cy) A s.heap M H locs) (hdg : decode cc pc = .ok (.getfield 108, 3)) (kk : W p l e R s m args below meth c H locs 0 0 Q (F0 m (pc + 3) ls (.int (M.1 o 6) :: rest))) : W p l e R s m args below meth c H locs 0 0 Q (F0 m pc ls (.ref (ad o) :: rest)) := by
  rcases ho with rfl | rfl
  · exact g_getN (host := "TubeWords") X hW (k := 15) (by decide) rfl rfl inX0g 6 (by decide) (by decide +kernel) rfl hdg kk
  · exact g_getN (host := "TubeWords") X hW (k := 22) (by decide) rfl rfl inX0g 6 (by decide) (by decide +kernel) rfl hdg kk
theorem gf_X0_34 {o : Nat} (ho : isSt o) (X : Cx p s m args c cc nL RX0 D cy) (hW : Wd D 43 ad (CC ad cy) A s.heap M H locs) (hdg : decode cc pc = .ok (.getfield 34, 3)) (kk : W p l e R s m args below meth c H locs 0 0 Q (F0 m (pc + 3) ls (.int (M.1 o 7) :: rest))) : W p l e R s m args below meth c H locs 0 0 Q (F0 m pc ls (.ref (ad o) :: rest)) := by
  rcases ho with rfl | rfl
  · exact g_get X hW (k := 15) (by decide) rfl rfl inX0g 7 (by decide) (mem_g (i := 118) (by decide +kernel) (by decide +kernel)) rfl hdg kk
  · exact g_get X hW (k := 22) (by decide) rfl rfl inX0g 7 (by decide) (mem_g (i := 118) (by decide +kernel) (by decide +kernel)) rfl hdg kk
theorem gp_X0_34 {o : Nat} (ho : isSt o) (X : Cx p s m args c cc nL RX0 D cy) (hW : Wd D 43 ad (CC ad cy) A s.heap M H locs) {v : Int32} (hdg : decode cc pc = .ok (.putfield 34, 3)) (kk : ∀ (H1 : Heap) (locs1 : List Loc), Wd D 43 ad (CC ad cy) A s.heap (sI M o 7 v) H1 locs1 → W p l e R s m args below meth c H1 locs1 0 0 Q (F0 m (pc + 3) ls (rest))) : W p l e R s m args below meth c H locs 0 0 Q (F0 m pc ls (.int v :: .ref (ad o) :: rest)) := by
  rcases ho with rfl | rfl
  · exact g_putI X hW (k := 15) (by decide) rfl rfl inX0g tyX0 tyX0_ok nmX0 7 (by decide) (mem_g (i := 118) (by decide +kernel) (by decide +kernel)) rfl rfl (show 7 < 8 from by decide) rfl hdg kk
  · exact g_putI X hW (k := 22) (by decide) rfl rfl inX0g tyX0 tyX0_ok nmX0 7 (by decide) (mem_g (i := 118) (by decide +kernel) (by decide +kernel)) rfl rfl (show 7 < 8 from by decide) rfl hdg kk
theorem gf_X1_127 {o : Nat} (ho : isSt o) (X : Cx p s m args c cc nL RX1 D cy) (hW : Wd D 43 ad (CC ad cy) A s.heap M H locs) (hdg : decode cc pc = .ok (.getfield 127, 3)) (kk : W p l e R s m args below meth c H locs 0 0 Q (F0 m (pc + 3) ls (.int (M.1 o 7) :: rest))) : W p l e R s m args below meth c H locs 0 0 Q (F0 m pc ls (.ref (ad o) :: rest)) := by
  rcases ho with rfl | rfl
  · exact g_getN (host := "TubeWords") X hW (k := 15) (by decide) rfl rfl inX0g 7 (by decide) (by decide +kernel) rfl hdg kk
  · exact g_getN (host := "TubeWords") X hW (k := 22) (by decide) rfl rfl inX0g 7 (by decide) (by decide +kernel) rfl hdg kk
theorem gf_X1_11 (X : Cx p s m args c cc nL RX1 D cy) (hW : Wd D 43 ad (CC ad cy) A s.heap M H locs) (hdg : decode cc pc = .ok (.getfield 11, 3)) (kk : W p l e R s m args below meth c H locs 0 0 Q (F0 m (pc + 3) ls (.ref (ad 1) :: rest))) : W p l e R s m args below meth c H locs 0 0 Q (F0 m pc ls (.ref (ad 0) :: rest)) := g_get X hW (k := 0) (by decide) rfl rfl inX1g 0 (by decide) (mem_g (i := 139) (by decide +kernel) (by decide +kernel)) rfl hdg kk
theorem gf_X1_14 (X : Cx p s m args c cc nL RX1 D cy) (hW : Wd D 43 ad (CC ad cy) A s.heap M H locs) (hdg : decode cc pc = .ok (.getfield 14, 3)) (kk : W p l e R s m args below meth c H locs 0 0 Q (F0 m (pc + 3) ls (.ref (ad 8) :: rest))) : W p l e R s m args below meth c H locs 0 0 Q (F0 m pc ls (.ref (ad 0) :: rest)) := g_get X hW (k := 0) (by decide) rfl rfl inX1g 1 (by decide) (mem_g (i := 140) (by decide +kernel) (by decide +kernel)) rfl hdg kk
theorem gf_X1_20 (X : Cx p s m args c cc nL RX1 D cy) (hW : Wd D 43 ad (CC ad cy) A s.heap M H locs) (hdg : decode cc pc = .ok (.getfield 20, 3)) (kk : W p l e R s m args below meth c H locs 0 0 Q (F0 m (pc + 3) ls (.ref (ad 9) :: rest))) : W p l e R s m args below meth c H locs 0 0 Q (F0 m pc ls (.ref (ad 0) :: rest)) := g_get X hW (k := 0) (by decide) rfl rfl inX1g 2 (by decide) (mem_g (i := 141) (by decide +kernel) (by decide +kernel)) rfl hdg kk
theorem gf_X1_23 (X : Cx p s m args c cc nL RX1 D cy) (hW : Wd D 43 ad (CC ad cy) A s.heap M H locs) (hdg : decode cc pc = .ok (.getfield 23, 3)) (kk : W p l e R s m args below meth c H locs 0 0 Q (F0 m (pc + 3) ls (.ref (ad 14) :: rest))) : W p l e R s m args below meth c H locs 0 0 Q (F0 m pc ls (.ref (ad 0) :: rest)) := g_get X hW (k := 0) (by decide) rfl rfl inX1g 3 (by decide) (mem_g (i := 142) (by decide +kernel) (by decide +kernel)) rfl hdg kk
theorem gf_X1_29 (X : Cx p s m args c cc nL RX1 D cy) (hW : Wd D 43 ad (CC ad cy) A s.heap M H locs) (hdg : decode cc pc = .ok (.getfield 29, 3)) (kk : W p l e R s m args below meth c H locs 0 0 Q (F0 m (pc + 3) ls (.ref (ad 15) :: rest))) : W p l e R s m args below meth c H locs 0 0 Q (F0 m pc ls (.ref (ad 0) :: rest)) := g_get X hW (k := 0) (by decide) rfl rfl inX1g 4 (by decide) (mem_g (i := 143) (by decide +kernel) (by decide +kernel)) rfl hdg kk
theorem gf_X1_33 (X : Cx p s m args c cc nL RX1 D cy) (hW : Wd D 43 ad (CC ad cy) A s.heap M H locs) (hdg : decode cc pc = .ok (.getfield 33, 3)) (kk : W p l e R s m args below meth c H locs 0 0 Q (F0 m (pc + 3) ls (.ref (ad 22) :: rest))) : W p l e R s m args below meth c H locs 0 0 Q (F0 m pc ls (.ref (ad 0) :: rest)) := g_get X hW (k := 0) (by decide) rfl rfl inX1g 5 (by decide) (mem_g (i := 144) (by decide +kernel) (by decide +kernel)) rfl hdg kk
theorem gf_X1_36 (X : Cx p s m args c cc nL RX1 D cy) (hW : Wd D 43 ad (CC ad cy) A s.heap M H locs) (hdg : decode cc pc = .ok (.getfield 36, 3)) (kk : W p l e R s m args below meth c H locs 0 0 Q (F0 m (pc + 3) ls (.ref (ad 29) :: rest))) : W p l e R s m args below meth c H locs 0 0 Q (F0 m pc ls (.ref (ad 0) :: rest)) := g_get X hW (k := 0) (by decide) rfl rfl inX1g 6 (by decide) (mem_g (i := 145) (by decide +kernel) (by decide +kernel)) rfl hdg kk
theorem gf_X1_39 (X : Cx p s m args c cc nL RX1 D cy) (hW : Wd D 43 ad (CC ad cy) A s.heap M H locs) (hdg : decode cc pc = .ok (.getfield 39, 3)) (kk : W p l e R s m args below meth c H locs 0 0 Q (F0 m (pc + 3) ls (.int (M.1 0 7) :: rest))) : W p l e R s m args below meth c H locs 0 0 Q (F0 m pc ls (.ref (ad 0) :: rest)) := g_get X hW (k := 0) (by decide) rfl rfl inX1g 7 (by decide) (mem_g (i := 146) (by decide +kernel) (by decide +kernel)) rfl hdg kk
theorem gp_X1_39 (X : Cx p s m args c cc nL RX1 D cy) (hW : Wd D 43 ad (CC ad cy) A s.heap M H locs) {v : Int32} (hdg : decode cc pc = .ok (.putfield 39, 3)) (kk : ∀ (H1 : Heap) (locs1 : List Loc), Wd D 43 ad (CC ad cy) A s.heap (sI M 0 7 v) H1 locs1 → W p l e R s m args below meth c H1 locs1 0 0 Q (F0 m (pc + 3) ls (rest))) : W p l e R s m args below meth c H locs 0 0 Q (F0 m pc ls (.int v :: .ref (ad 0) :: rest)) := g_putI X hW (k := 0) (by decide) rfl rfl inX1g tyX1 tyX1_ok nmX1 7 (by decide) (mem_g (i := 146) (by decide +kernel) (by decide +kernel)) rfl rfl (show 7 < 16 from by decide) rfl hdg kk
theorem gf_X1_43 (X : Cx p s m args c cc nL RX1 D cy) (hW : Wd D 43 ad (CC ad cy) A s.heap M H locs) (hdg : decode cc pc = .ok (.getfield 43, 3)) (kk : W p l e R s m args below meth c H locs 0 0 Q (F0 m (pc + 3) ls (.ref (ad 30) :: rest))) : W p l e R s m args below meth c H locs 0 0 Q (F0 m pc ls (.ref (ad 0) :: rest)) := g_get X hW (k := 0) (by decide) rfl rfl inX1g 8 (by decide) (mem_g (i := 147) (by decide +kernel) (by decide +kernel)) rfl hdg kk
theorem gf_X1_46 (X : Cx p s m args c cc nL RX1 D cy) (hW : Wd D 43 ad (CC ad cy) A s.heap M H locs) (hdg : decode cc pc = .ok (.getfield 46, 3)) (kk : W p l e R s m args below meth c H locs 0 0 Q (F0 m (pc + 3) ls (.ref (ad 34) :: rest))) : W p l e R s m args below meth c H locs 0 0 Q (F0 m pc ls (.ref (ad 0) :: rest)) := g_get X hW (k := 0) (by decide) rfl rfl inX1g 9 (by decide) (mem_g (i := 148) (by decide +kernel) (by decide +kernel)) rfl hdg kk
theorem gf_X1_49 (X : Cx p s m args c cc nL RX1 D cy) (hW : Wd D 43 ad (CC ad cy) A s.heap M H locs) (hdg : decode cc pc = .ok (.getfield 49, 3)) (kk : W p l e R s m args below meth c H locs 0 0 Q (F0 m (pc + 3) ls (.ref (ad 35) :: rest))) : W p l e R s m args below meth c H locs 0 0 Q (F0 m pc ls (.ref (ad 0) :: rest)) := g_get X hW (k := 0) (by decide) rfl rfl inX1g 10 (by decide) (mem_g (i := 149) (by decide +kernel) (by decide +kernel)) rfl hdg kk
theorem gf_X1_52 (X : Cx p s m args c cc nL RX1 D cy) (hW : Wd D 43 ad (CC ad cy) A s.heap M H locs) (hdg : decode cc pc = .ok (.getfield 52, 3)) (kk : W p l e R s m args below meth c H locs 0 0 Q (F0 m (pc + 3) ls (.ref (ad 42) :: rest))) : W p l e R s m args below meth c H locs 0 0 Q (F0 m pc ls (.ref (ad 0) :: rest)) := g_get X hW (k := 0) (by decide) rfl rfl inX1g 11 (by decide) (mem_g (i := 150) (by decide +kernel) (by decide +kernel)) rfl hdg kk
theorem gf_X1_55 (X : Cx p s m args c cc nL RX1 D cy) (hW : Wd D 43 ad (CC ad cy) A s.heap M H locs) (hdg : decode cc pc = .ok (.getfield 55, 3)) (kk : W p l e R s m args below meth c H locs 0 0 Q (F0 m (pc + 3) ls (.int (M.1 0 12) :: rest))) : W p l e R s m args below meth c H locs 0 0 Q (F0 m pc ls (.ref (ad 0) :: rest)) := g_get X hW (k := 0) (by decide) rfl rfl inX1g 12 (by decide) (mem_g (i := 151) (by decide +kernel) (by decide +kernel)) rfl hdg kk
theorem gp_X1_55 (X : Cx p s m args c cc nL RX1 D cy) (hW : Wd D 43 ad (CC ad cy) A s.heap M H locs) {v : Int32} (hdg : decode cc pc = .ok (.putfield 55, 3)) (kk : ∀ (H1 : Heap) (locs1 : List Loc), Wd D 43 ad (CC ad cy) A s.heap (sI M 0 12 v) H1 locs1 → W p l e R s m args below meth c H1 locs1 0 0 Q (F0 m (pc + 3) ls (rest))) : W p l e R s m args below meth c H locs 0 0 Q (F0 m pc ls (.int v :: .ref (ad 0) :: rest)) := g_putI X hW (k := 0) (by decide) rfl rfl inX1g tyX1 tyX1_ok nmX1 12 (by decide) (mem_g (i := 151) (by decide +kernel) (by decide +kernel)) rfl rfl (show 12 < 16 from by decide) rfl hdg kk
theorem gf_X1_58 (X : Cx p s m args c cc nL RX1 D cy) (hW : Wd D 43 ad (CC ad cy) A s.heap M H locs) (hdg : decode cc pc = .ok (.getfield 58, 3)) (kk : W p l e R s m args below meth c H locs 0 0 Q (F0 m (pc + 3) ls (.int (M.1 0 13) :: rest))) : W p l e R s m args below meth c H locs 0 0 Q (F0 m pc ls (.ref (ad 0) :: rest)) := g_get X hW (k := 0) (by decide) rfl rfl inX1g 13 (by decide) (mem_g (i := 152) (by decide +kernel) (by decide +kernel)) rfl hdg kk
theorem gp_X1_58 (X : Cx p s m args c cc nL RX1 D cy) (hW : Wd D 43 ad (CC ad cy) A s.heap M H locs) {v : Int32} (hdg : decode cc pc = .ok (.putfield 58, 3)) (kk : ∀ (H1 : Heap) (locs1 : List Loc), Wd D 43 ad (CC ad cy) A s.heap (sI M 0 13 v) H1 locs1 → W p l e R s m args below meth c H1 locs1 0 0 Q (F0 m (pc + 3) ls (rest))) : W p l e R s m args below meth c H locs 0 0 Q (F0 m pc ls (.int v :: .ref (ad 0) :: rest)) := g_putI X hW (k := 0) (by decide) rfl rfl inX1g tyX1 tyX1_ok nmX1 13 (by decide) (mem_g (i := 152) (by decide +kernel) (by decide +kernel)) rfl rfl (show 13 < 16 from by decide) rfl hdg kk
theorem gf_X1_61 (X : Cx p s m args c cc nL RX1 D cy) (hW : Wd D 43 ad (CC ad cy) A s.heap M H locs) (hdg : decode cc pc = .ok (.getfield 61, 3)) (kk : W p l e R s m args below meth c H locs 0 0 Q (F0 m (pc + 3) ls (.long (M.2 0 14) :: rest))) : W p l e R s m args below meth c H locs 0 0 Q (F0 m pc ls (.ref (ad 0) :: rest)) := g_get X hW (k := 0) (by decide) rfl rfl inX1g 14 (by decide) (mem_g (i := 153) (by decide +kernel) (by decide +kernel)) rfl hdg kk
theorem gp_X1_61 (X : Cx p s m args c cc nL RX1 D cy) (hW : Wd D 43 ad (CC ad cy) A s.heap M H locs) {v : Int64} (hdg : decode cc pc = .ok (.putfield 61, 3)) (kk : ∀ (H1 : Heap) (locs1 : List Loc), Wd D 43 ad (CC ad cy) A s.heap (sL M 0 14 v) H1 locs1 → W p l e R s m args below meth c H1 locs1 0 0 Q (F0 m (pc + 3) ls (rest))) : W p l e R s m args below meth c H locs 0 0 Q (F0 m pc ls (.long v :: .ref (ad 0) :: rest)) := g_putL X hW (k := 0) (by decide) rfl rfl inX1g tyX1 tyX1_ok nmX1 14 (by decide) (mem_g (i := 153) (by decide +kernel) (by decide +kernel)) rfl rfl (show 14 < 16 from by decide) rfl hdg kk
theorem gf_X1_65 (X : Cx p s m args c cc nL RX1 D cy) (hW : Wd D 43 ad (CC ad cy) A s.heap M H locs) (hdg : decode cc pc = .ok (.getfield 65, 3)) (kk : W p l e R s m args below meth c H locs 0 0 Q (F0 m (pc + 3) ls (.long (M.2 0 15) :: rest))) : W p l e R s m args below meth c H locs 0 0 Q (F0 m pc ls (.ref (ad 0) :: rest)) := g_get X hW (k := 0) (by decide) rfl rfl inX1g 15 (by decide) (mem_g (i := 154) (by decide +kernel) (by decide +kernel)) rfl hdg kk
theorem gp_X1_65 (X : Cx p s m args c cc nL RX1 D cy) (hW : Wd D 43 ad (CC ad cy) A s.heap M H locs) {v : Int64} (hdg : decode cc pc = .ok (.putfield 65, 3)) (kk : ∀ (H1 : Heap) (locs1 : List Loc), Wd D 43 ad (CC ad cy) A s.heap (sL M 0 15 v) H1 locs1 → W p l e R s m args below meth c H1 locs1 0 0 Q (F0 m (pc + 3) ls (rest))) : W p l e R s m args below meth c H locs 0 0 Q (F0 m pc ls (.long v :: .ref (ad 0) :: rest)) := g_putL X hW (k := 0) (by decide) rfl rfl inX1g tyX1 tyX1_ok nmX1 15 (by decide) (mem_g (i := 154) (by decide +kernel) (by decide +kernel)) rfl rfl (show 15 < 16 from by decide) rfl hdg kk
theorem gf_X2_7 (X : Cx p s m args c cc nL RX2 D cy) (hW : Wd D 20 ad (CM ad cy) A s.heap M H locs) (hdg : decode cc pc = .ok (.getfield 7, 3)) (kk : W p l e R s m args below meth c H locs 0 0 Q (F0 m (pc + 3) ls (.ref (ad 1) :: rest))) : W p l e R s m args below meth c H locs 0 0 Q (F0 m pc ls (.ref (ad 0) :: rest)) := g_get X hW (k := 0) (by decide) rfl rfl inX2g 0 (by decide) (mem_g (i := 598) (by decide +kernel) (by decide +kernel)) rfl hdg kk
theorem gf_X2_13 (X : Cx p s m args c cc nL RX2 D cy) (hW : Wd D 20 ad (CM ad cy) A s.heap M H locs) (hdg : decode cc pc = .ok (.getfield 13, 3)) (kk : W p l e R s m args below meth c H locs 0 0 Q (F0 m (pc + 3) ls (.ref (ad 2) :: rest))) : W p l e R s m args below meth c H locs 0 0 Q (F0 m pc ls (.ref (ad 0) :: rest)) := g_get X hW (k := 0) (by decide) rfl rfl inX2g 1 (by decide) (mem_g (i := 599) (by decide +kernel) (by decide +kernel)) rfl hdg kk
theorem gf_X2_16 (X : Cx p s m args c cc nL RX2 D cy) (hW : Wd D 20 ad (CM ad cy) A s.heap M H locs) (hdg : decode cc pc = .ok (.getfield 16, 3)) (kk : W p l e R s m args below meth c H locs 0 0 Q (F0 m (pc + 3) ls (.ref (ad 3) :: rest))) : W p l e R s m args below meth c H locs 0 0 Q (F0 m pc ls (.ref (ad 0) :: rest)) := g_get X hW (k := 0) (by decide) rfl rfl inX2g 2 (by decide) (mem_g (i := 600) (by decide +kernel) (by decide +kernel)) rfl hdg kk
theorem gf_X2_19 (X : Cx p s m args c cc nL RX2 D cy) (hW : Wd D 20 ad (CM ad cy) A s.heap M H locs) (hdg : decode cc pc = .ok (.getfield 19, 3)) (kk : W p l e R s m args below meth c H locs 0 0 Q (F0 m (pc + 3) ls (.ref (ad 4) :: rest))) : W p l e R s m args below meth c H locs 0 0 Q (F0 m pc ls (.ref (ad 0) :: rest)) := g_get X hW (k := 0) (by decide) rfl rfl inX2g 3 (by decide) (mem_g (i := 601) (by decide +kernel) (by decide +kernel)) rfl hdg kk
theorem gf_X2_79 (X : Cx p s m args c cc nL RX2 D cy) (hW : Wd D 20 ad (CM ad cy) A s.heap M H locs) (hdg : decode cc pc = .ok (.getfield 79, 3)) (kk : W p l e R s m args below meth c H locs 0 0 Q (F0 m (pc + 3) ls (.int (M.1 0 4) :: rest))) : W p l e R s m args below meth c H locs 0 0 Q (F0 m pc ls (.ref (ad 0) :: rest)) := g_get X hW (k := 0) (by decide) rfl rfl inX2g 4 (by decide) (mem_g (i := 602) (by decide +kernel) (by decide +kernel)) rfl hdg kk
theorem gp_X2_79 (X : Cx p s m args c cc nL RX2 D cy) (hW : Wd D 20 ad (CM ad cy) A s.heap M H locs) {v : Int32} (hdg : decode cc pc = .ok (.putfield 79, 3)) (kk : ∀ (H1 : Heap) (locs1 : List Loc), Wd D 20 ad (CM ad cy) A s.heap (sI M 0 4 v) H1 locs1 → W p l e R s m args below meth c H1 locs1 0 0 Q (F0 m (pc + 3) ls (rest))) : W p l e R s m args below meth c H locs 0 0 Q (F0 m pc ls (.int v :: .ref (ad 0) :: rest)) := g_putI X hW (k := 0) (by decide) rfl rfl inX2g tyX2 tyX2_ok nmX2 4 (by decide) (mem_g (i := 602) (by decide +kernel) (by decide +kernel)) rfl rfl (show 4 < 26 from by decide) rfl hdg kk
theorem gf_X2_22 (X : Cx p s m args c cc nL RX2 D cy) (hW : Wd D 20 ad (CM ad cy) A s.heap M H locs) (hdg : decode cc pc = .ok (.getfield 22, 3)) (kk : W p l e R s m args below meth c H locs 0 0 Q (F0 m (pc + 3) ls (.ref (ad 5) :: rest))) : W p l e R s m args below meth c H locs 0 0 Q (F0 m pc ls (.ref (ad 0) :: rest)) := g_get X hW (k := 0) (by decide) rfl rfl inX2g 5 (by decide) (mem_g (i := 603) (by decide +kernel) (by decide +kernel)) rfl hdg kk
theorem gf_X2_25 (X : Cx p s m args c cc nL RX2 D cy) (hW : Wd D 20 ad (CM ad cy) A s.heap M H locs) (hdg : decode cc pc = .ok (.getfield 25, 3)) (kk : W p l e R s m args below meth c H locs 0 0 Q (F0 m (pc + 3) ls (.ref (ad 6) :: rest))) : W p l e R s m args below meth c H locs 0 0 Q (F0 m pc ls (.ref (ad 0) :: rest)) := g_get X hW (k := 0) (by decide) rfl rfl inX2g 6 (by decide) (mem_g (i := 604) (by decide +kernel) (by decide +kernel)) rfl hdg kk
theorem gf_X2_28 (X : Cx p s m args c cc nL RX2 D cy) (hW : Wd D 20 ad (CM ad cy) A s.heap M H locs) (hdg : decode cc pc = .ok (.getfield 28, 3)) (kk : W p l e R s m args below meth c H locs 0 0 Q (F0 m (pc + 3) ls (.ref (ad 7) :: rest))) : W p l e R s m args below meth c H locs 0 0 Q (F0 m pc ls (.ref (ad 0) :: rest)) := g_get X hW (k := 0) (by decide) rfl rfl inX2g 7 (by decide) (mem_g (i := 605) (by decide +kernel) (by decide +kernel)) rfl hdg kk
theorem gf_X2_31 (X : Cx p s m args c cc nL RX2 D cy) (hW : Wd D 20 ad (CM ad cy) A s.heap M H locs) (hdg : decode cc pc = .ok (.getfield 31, 3)) (kk : W p l e R s m args below meth c H locs 0 0 Q (F0 m (pc + 3) ls (.ref (ad 8) :: rest))) : W p l e R s m args below meth c H locs 0 0 Q (F0 m pc ls (.ref (ad 0) :: rest)) := g_get X hW (k := 0) (by decide) rfl rfl inX2g 8 (by decide) (mem_g (i := 606) (by decide +kernel) (by decide +kernel)) rfl hdg kk
theorem gf_X2_34 (X : Cx p s m args c cc nL RX2 D cy) (hW : Wd D 20 ad (CM ad cy) A s.heap M H locs) (hdg : decode cc pc = .ok (.getfield 34, 3)) (kk : W p l e R s m args below meth c H locs 0 0 Q (F0 m (pc + 3) ls (.ref (ad 9) :: rest))) : W p l e R s m args below meth c H locs 0 0 Q (F0 m pc ls (.ref (ad 0) :: rest)) := g_get X hW (k := 0) (by decide) rfl rfl inX2g 9 (by decide) (mem_g (i := 607) (by decide +kernel) (by decide +kernel)) rfl hdg kk
theorem gf_X2_37 (X : Cx p s m args c cc nL RX2 D cy) (hW : Wd D 20 ad (CM ad cy) A s.heap M H locs) (hdg : decode cc pc = .ok (.getfield 37, 3)) (kk : W p l e R s m args below meth c H locs 0 0 Q (F0 m (pc + 3) ls (.ref (ad 10) :: rest))) : W p l e R s m args below meth c H locs 0 0 Q (F0 m pc ls (.ref (ad 0) :: rest)) := g_get X hW (k := 0) (by decide) rfl rfl inX2g 10 (by decide) (mem_g (i := 608) (by decide +kernel) (by decide +kernel)) rfl hdg kk
theorem gf_X2_121 (X : Cx p s m args c cc nL RX2 D cy) (hW : Wd D 20 ad (CM ad cy) A s.heap M H locs) (hdg : decode cc pc = .ok (.getfield 121, 3)) (kk : W p l e R s m args below meth c H locs 0 0 Q (F0 m (pc + 3) ls (.int (M.1 0 11) :: rest))) : W p l e R s m args below meth c H locs 0 0 Q (F0 m pc ls (.ref (ad 0) :: rest)) := g_get X hW (k := 0) (by decide) rfl rfl inX2g 11 (by decide) (mem_g (i := 609) (by decide +kernel) (by decide +kernel)) rfl hdg kk
theorem gp_X2_121 (X : Cx p s m args c cc nL RX2 D cy) (hW : Wd D 20 ad (CM ad cy) A s.heap M H locs) {v : Int32} (hdg : decode cc pc = .ok (.putfield 121, 3)) (kk : ∀ (H1 : Heap) (locs1 : List Loc), Wd D 20 ad (CM ad cy) A s.heap (sI M 0 11 v) H1 locs1 → W p l e R s m args below meth c H1 locs1 0 0 Q (F0 m (pc + 3) ls (rest))) : W p l e R s m args below meth c H locs 0 0 Q (F0 m pc ls (.int v :: .ref (ad 0) :: rest)) := g_putI X hW (k := 0) (by decide) rfl rfl inX2g tyX2 tyX2_ok nmX2 11 (by decide) (mem_g (i := 609) (by decide +kernel) (by decide +kernel)) rfl rfl (show 11 < 26 from by decide) rfl hdg kk
theorem gf_X2_40 (X : Cx p s m args c cc nL RX2 D cy) (hW : Wd D 20 ad (CM ad cy) A s.heap M H locs) (hdg : decode cc pc = .ok (.getfield 40, 3)) (kk : W p l e R s m args below meth c H locs 0 0 Q (F0 m (pc + 3) ls (.ref (ad 11) :: rest))) : W p l e R s m args below meth c H locs 0 0 Q (F0 m pc ls (.ref (ad 0) :: rest)) := g_get X hW (k := 0) (by decide) rfl rfl inX2g 12 (by decide) (mem_g (i := 610) (by decide +kernel) (by decide +kernel)) rfl hdg kk
theorem gf_X2_43 (X : Cx p s m args c cc nL RX2 D cy) (hW : Wd D 20 ad (CM ad cy) A s.heap M H locs) (hdg : decode cc pc = .ok (.getfield 43, 3)) (kk : W p l e R s m args below meth c H locs 0 0 Q (F0 m (pc + 3) ls (.ref (ad 12) :: rest))) : W p l e R s m args below meth c H locs 0 0 Q (F0 m pc ls (.ref (ad 0) :: rest)) := g_get X hW (k := 0) (by decide) rfl rfl inX2g 13 (by decide) (mem_g (i := 611) (by decide +kernel) (by decide +kernel)) rfl hdg kk
theorem gf_X2_76 (X : Cx p s m args c cc nL RX2 D cy) (hW : Wd D 20 ad (CM ad cy) A s.heap M H locs) (hdg : decode cc pc = .ok (.getfield 76, 3)) (kk : W p l e R s m args below meth c H locs 0 0 Q (F0 m (pc + 3) ls (.int (M.1 0 14) :: rest))) : W p l e R s m args below meth c H locs 0 0 Q (F0 m pc ls (.ref (ad 0) :: rest)) := g_get X hW (k := 0) (by decide) rfl rfl inX2g 14 (by decide) (mem_g (i := 612) (by decide +kernel) (by decide +kernel)) rfl hdg kk
theorem gp_X2_76 (X : Cx p s m args c cc nL RX2 D cy) (hW : Wd D 20 ad (CM ad cy) A s.heap M H locs) {v : Int32} (hdg : decode cc pc = .ok (.putfield 76, 3)) (kk : ∀ (H1 : Heap) (locs1 : List Loc), Wd D 20 ad (CM ad cy) A s.heap (sI M 0 14 v) H1 locs1 → W p l e R s m args below meth c H1 locs1 0 0 Q (F0 m (pc + 3) ls (rest))) : W p l e R s m args below meth c H locs 0 0 Q (F0 m pc ls (.int v :: .ref (ad 0) :: rest)) := g_putI X hW (k := 0) (by decide) rfl rfl inX2g tyX2 tyX2_ok nmX2 14 (by decide) (mem_g (i := 612) (by decide +kernel) (by decide +kernel)) rfl rfl (show 14 < 26 from by decide) rfl hdg kk
theorem gf_X2_203 (X : Cx p s m args c cc nL RX2 D cy) (hW : Wd D 20 ad (CM ad cy) A s.heap M H locs) (hdg : decode cc pc = .ok (.getfield 203, 3)) (kk : W p l e R s m args below meth c H locs 0 0 Q (F0 m (pc + 3) ls (.long (M.2 0 15) :: rest))) : W p l e R s m args below meth c H locs 0 0 Q (F0 m pc ls (.ref (ad 0) :: rest)) := g_get X hW (k := 0) (by decide) rfl rfl inX2g 15 (by decide) (mem_g (i := 613) (by decide +kernel) (by decide +kernel)) rfl hdg kk
theorem gp_X2_203 (X : Cx p s m args c cc nL RX2 D cy) (hW : Wd D 20 ad (CM ad cy) A s.heap M H locs) {v : Int64} (hdg : decode cc pc = .ok (.putfield 203, 3)) (kk : ∀ (H1 : Heap) (locs1 : List Loc), Wd D 20 ad (CM ad cy) A s.heap (sL M 0 15 v) H1 locs1 → W p l e R s m args below meth c H1 locs1 0 0 Q (F0 m (pc + 3) ls (rest))) : W p l e R s m args below meth c H locs 0 0 Q (F0 m pc ls (.long v :: .ref (ad 0) :: rest)) := g_putL X hW (k := 0) (by decide) rfl rfl inX2g tyX2 tyX2_ok nmX2 15 (by decide) (mem_g (i := 613) (by decide +kernel) (by decide +kernel)) rfl rfl (show 15 < 26 from by decide) rfl hdg kk
theorem gf_X2_47 (X : Cx p s m args c cc nL RX2 D cy) (hW : Wd D 20 ad (CM ad cy) A s.heap M H locs) (hdg : decode cc pc = .ok (.getfield 47, 3)) (kk : W p l e R s m args below meth c H locs 0 0 Q (F0 m (pc + 3) ls (.long (M.2 0 16) :: rest))) : W p l e R s m args below meth c H locs 0 0 Q (F0 m pc ls (.ref (ad 0) :: rest)) := g_get X hW (k := 0) (by decide) rfl rfl inX2g 16 (by decide) (mem_g (i := 614) (by decide +kernel) (by decide +kernel)) rfl hdg kk
theorem gp_X2_47 (X : Cx p s m args c cc nL RX2 D cy) (hW : Wd D 20 ad (CM ad cy) A s.heap M H locs) {v : Int64} (hdg : decode cc pc = .ok (.putfield 47, 3)) (kk : ∀ (H1 : Heap) (locs1 : List Loc), Wd D 20 ad (CM ad cy) A s.heap (sL M 0 16 v) H1 locs1 → W p l e R s m args below meth c H1 locs1 0 0 Q (F0 m (pc + 3) ls (rest))) : W p l e R s m args below meth c H locs 0 0 Q (F0 m pc ls (.long v :: .ref (ad 0) :: rest)) := g_putL X hW (k := 0) (by decide) rfl rfl inX2g tyX2 tyX2_ok nmX2 16 (by decide) (mem_g (i := 614) (by decide +kernel) (by decide +kernel)) rfl rfl (show 16 < 26 from by decide) rfl hdg kk
theorem gf_X2_72 (X : Cx p s m args c cc nL RX2 D cy) (hW : Wd D 20 ad (CM ad cy) A s.heap M H locs) (hdg : decode cc pc = .ok (.getfield 72, 3)) (kk : W p l e R s m args below meth c H locs 0 0 Q (F0 m (pc + 3) ls (.int (M.1 0 17) :: rest))) : W p l e R s m args below meth c H locs 0 0 Q (F0 m pc ls (.ref (ad 0) :: rest)) := g_get X hW (k := 0) (by decide) rfl rfl inX2g 17 (by decide) (mem_g (i := 615) (by decide +kernel) (by decide +kernel)) rfl hdg kk
theorem gp_X2_72 (X : Cx p s m args c cc nL RX2 D cy) (hW : Wd D 20 ad (CM ad cy) A s.heap M H locs) {v : Int32} (hdg : decode cc pc = .ok (.putfield 72, 3)) (kk : ∀ (H1 : Heap) (locs1 : List Loc), Wd D 20 ad (CM ad cy) A s.heap (sI M 0 17 v) H1 locs1 → W p l e R s m args below meth c H1 locs1 0 0 Q (F0 m (pc + 3) ls (rest))) : W p l e R s m args below meth c H locs 0 0 Q (F0 m pc ls (.int v :: .ref (ad 0) :: rest)) := g_putI X hW (k := 0) (by decide) rfl rfl inX2g tyX2 tyX2_ok nmX2 17 (by decide) (mem_g (i := 615) (by decide +kernel) (by decide +kernel)) rfl rfl (show 17 < 26 from by decide) rfl hdg kk
theorem gf_X2_51 (X : Cx p s m args c cc nL RX2 D cy) (hW : Wd D 20 ad (CM ad cy) A s.heap M H locs) (hdg : decode cc pc = .ok (.getfield 51, 3)) (kk : W p l e R s m args below meth c H locs 0 0 Q (F0 m (pc + 3) ls (.ref (ad 13) :: rest))) : W p l e R s m args below meth c H locs 0 0 Q (F0 m pc ls (.ref (ad 0) :: rest)) := g_get X hW (k := 0) (by decide) rfl rfl inX2g 18 (by decide) (mem_g (i := 616) (by decide +kernel) (by decide +kernel)) rfl hdg kk
theorem gf_X2_108 (X : Cx p s m args c cc nL RX2 D cy) (hW : Wd D 20 ad (CM ad cy) A s.heap M H locs) (hdg : decode cc pc = .ok (.getfield 108, 3)) (kk : W p l e R s m args below meth c H locs 0 0 Q (F0 m (pc + 3) ls (.int (M.1 0 19) :: rest))) : W p l e R s m args below meth c H locs 0 0 Q (F0 m pc ls (.ref (ad 0) :: rest)) := g_get X hW (k := 0) (by decide) rfl rfl inX2g 19 (by decide) (mem_g (i := 617) (by decide +kernel) (by decide +kernel)) rfl hdg kk
theorem gp_X2_108 (X : Cx p s m args c cc nL RX2 D cy) (hW : Wd D 20 ad (CM ad cy) A s.heap M H locs) {v : Int32} (hdg : decode cc pc = .ok (.putfield 108, 3)) (kk : ∀ (H1 : Heap) (locs1 : List Loc), Wd D 20 ad (CM ad cy) A s.heap (sI M 0 19 v) H1 locs1 → W p l e R s m args below meth c H1 locs1 0 0 Q (F0 m (pc + 3) ls (rest))) : W p l e R s m args below meth c H locs 0 0 Q (F0 m pc ls (.int v :: .ref (ad 0) :: rest)) := g_putI X hW (k := 0) (by decide) rfl rfl inX2g tyX2 tyX2_ok nmX2 19 (by decide) (mem_g (i := 617) (by decide +kernel) (by decide +kernel)) rfl rfl (show 19 < 26 from by decide) rfl hdg kk
theorem gf_X2_54 (X : Cx p s m args c cc nL RX2 D cy) (hW : Wd D 20 ad (CM ad cy) A s.heap M H locs) (hdg : decode cc pc = .ok (.getfield 54, 3)) (kk : W p l e R s m args below meth c H locs 0 0 Q (F0 m (pc + 3) ls (.ref (ad 14) :: rest))) : W p l e R s m args below meth c H locs 0 0 Q (F0 m pc ls (.ref (ad 0) :: rest)) := g_get X hW (k := 0) (by decide) rfl rfl inX2g 20 (by decide) (mem_g (i := 618) (by decide +kernel) (by decide +kernel)) rfl hdg kk
theorem gf_X2_57 (X : Cx p s m args c cc nL RX2 D cy) (hW : Wd D 20 ad (CM ad cy) A s.heap M H locs) (hdg : decode cc pc = .ok (.getfield 57, 3)) (kk : W p l e R s m args below meth c H locs 0 0 Q (F0 m (pc + 3) ls (.ref (ad 15) :: rest))) : W p l e R s m args below meth c H locs 0 0 Q (F0 m pc ls (.ref (ad 0) :: rest)) := g_get X hW (k := 0) (by decide) rfl rfl inX2g 21 (by decide) (mem_g (i := 619) (by decide +kernel) (by decide +kernel)) rfl hdg kk
theorem gf_X2_60 (X : Cx p s m args c cc nL RX2 D cy) (hW : Wd D 20 ad (CM ad cy) A s.heap M H locs) (hdg : decode cc pc = .ok (.getfield 60, 3)) (kk : W p l e R s m args below meth c H locs 0 0 Q (F0 m (pc + 3) ls (.ref (ad 16) :: rest))) : W p l e R s m args below meth c H locs 0 0 Q (F0 m pc ls (.ref (ad 0) :: rest)) := g_get X hW (k := 0) (by decide) rfl rfl inX2g 22 (by decide) (mem_g (i := 620) (by decide +kernel) (by decide +kernel)) rfl hdg kk
theorem gf_X2_63 (X : Cx p s m args c cc nL RX2 D cy) (hW : Wd D 20 ad (CM ad cy) A s.heap M H locs) (hdg : decode cc pc = .ok (.getfield 63, 3)) (kk : W p l e R s m args below meth c H locs 0 0 Q (F0 m (pc + 3) ls (.ref (ad 17) :: rest))) : W p l e R s m args below meth c H locs 0 0 Q (F0 m pc ls (.ref (ad 0) :: rest)) := g_get X hW (k := 0) (by decide) rfl rfl inX2g 23 (by decide) (mem_g (i := 621) (by decide +kernel) (by decide +kernel)) rfl hdg kk
theorem gf_X2_66 (X : Cx p s m args c cc nL RX2 D cy) (hW : Wd D 20 ad (CM ad cy) A s.heap M H locs) (hdg : decode cc pc = .ok (.getfield 66, 3)) (kk : W p l e R s m args below meth c H locs 0 0 Q (F0 m (pc + 3) ls (.ref (ad 18) :: rest))) : W p l e R s m args below meth c H locs 0 0 Q (F0 m pc ls (.ref (ad 0) :: rest)) := g_get X hW (k := 0) (by decide) rfl rfl inX2g 24 (by decide) (mem_g (i := 622) (by decide +kernel) (by decide +kernel)) rfl hdg kk
theorem gf_X2_69 (X : Cx p s m args c cc nL RX2 D cy) (hW : Wd D 20 ad (CM ad cy) A s.heap M H locs) (hdg : decode cc pc = .ok (.getfield 69, 3)) (kk : W p l e R s m args below meth c H locs 0 0 Q (F0 m (pc + 3) ls (.ref (ad 19) :: rest))) : W p l e R s m args below meth c H locs 0 0 Q (F0 m pc ls (.ref (ad 0) :: rest)) := g_get X hW (k := 0) (by decide) rfl rfl inX2g 25 (by decide) (mem_g (i := 623) (by decide +kernel) (by decide +kernel)) rfl hdg kk
end G3
end
section
section G4
variable {p : Program} {l : Launch} {e : Env} {R : Room} {s : State} {m : MethodId} {args : Array Value} {below : List Frame} {meth : Method} {c : Code} {H : Heap} {locs : List Loc} {cells slots : Nat} {Q : State → Prop}
variable {cc : ByteArray} {pc nL : Nat} {ls : Array Slot} {rest : List Value} {D : va_G} {A : Nat → Prop} {cy : Nat → ClassId} {own : String} {N : Nat} {ad : Nat → Nat} {C : CF} {M M' : Mem}
theorem r_irem (hexec : p.tables.exec = Jvm.exec) (hb : c.code = cc) {x y : Int32} (hdg : decode cc pc = .ok (.irem, 1)) (hne : ¬ y = 0)
    (k : W p l e R s m args below meth c H locs cells slots Q (F0 m (pc + 1) ls (.int (irm x y) :: rest))) : W p l e R s m args below meth c H locs cells slots Q (F0 m pc ls (.int y :: .int x :: rest)) := lv_irem hexec hb hdg hne k
theorem r_lrem (hexec : p.tables.exec = Jvm.exec) (hb : c.code = cc) {x y : Int64} (hdg : decode cc pc = .ok (.lrem, 1)) (hne : ¬ y = 0)
    (k : W p l e R s m args below meth c H locs cells slots Q (F0 m (pc + 1) ls (.long (lrm x y) :: rest))) : W p l e R s m args below meth c H locs cells slots Q (F0 m pc ls (.long y :: .long x :: rest)) := lv_lrem hexec hb hdg hne k
theorem r_ishl (hexec : p.tables.exec = Jvm.exec) (hb : c.code = cc) {x y : Int32} (hdg : decode cc pc = .ok (.ishl, 1))
    (k : W p l e R s m args below meth c H locs cells slots Q (F0 m (pc + 1) ls (.int (shl x y) :: rest))) : W p l e R s m args below meth c H locs cells slots Q (F0 m pc ls (.int y :: .int x :: rest)) := lv_ishl hexec hb hdg k
theorem r_ishr (hexec : p.tables.exec = Jvm.exec) (hb : c.code = cc) {x y : Int32} (hdg : decode cc pc = .ok (.ishr, 1))
    (k : W p l e R s m args below meth c H locs cells slots Q (F0 m (pc + 1) ls (.int (shr x y) :: rest))) : W p l e R s m args below meth c H locs cells slots Q (F0 m pc ls (.int y :: .int x :: rest)) := lv_ishr hexec hb hdg k
theorem r_max (X : Cx p s m args c cc nL own D cy) (hml : ls.size = nL) {index : Nat} (hlink : Cond.methodLink own index Lib.Math.max.name ∈ lw_g) (hfr : 1 ≤ R.frames) (hlo : (rest.map fun v => v.category).sum + 13 ≤ R.locals) {x y : Int32} (hdg : decode cc pc = .ok (.invokestatic index, 3))
    (kk : W p l e R s m args below meth c H locs 0 0 Q (F0 m (pc + 3) ls (.int (mxI x y) :: rest))) : W p l e R s m args below meth c H locs 0 0 Q (F0 m pc ls (.int y :: .int x :: rest)) :=
  va_mmax X.1 X.2.1 (X.2.2.1.trans hml.symm) X.2.2.2.1 (X.2.2.2.2.1 _ hlink) (X.2.2.2.2.1 _ q_mmaxs) (X.2.2.2.2.1 _ q_inMath) (X.2.2.2.2.1 _ q_mmaxc) hfr hlo (Nat.zero_le _) (Nat.zero_le _) hdg kk
theorem r_min (X : Cx p s m args c cc nL own D cy) (hml : ls.size = nL) {index : Nat} (hlink : Cond.methodLink own index Lib.Math.min.name ∈ lw_g) (hfr : 1 ≤ R.frames) (hlo : (rest.map fun v => v.category).sum + 13 ≤ R.locals) {x y : Int32} (hdg : decode cc pc = .ok (.invokestatic index, 3))
    (kk : W p l e R s m args below meth c H locs 0 0 Q (F0 m (pc + 3) ls (.int (mnI x y) :: rest))) : W p l e R s m args below meth c H locs 0 0 Q (F0 m pc ls (.int y :: .int x :: rest)) :=
  va_mmin X.1 X.2.1 (X.2.2.1.trans hml.symm) X.2.2.2.1 (X.2.2.2.2.1 _ hlink) (X.2.2.2.2.1 _ q_mmins) (X.2.2.2.2.1 _ q_inMath) (X.2.2.2.2.1 _ q_mminc) hfr hlo (Nat.zero_le _) (Nat.zero_le _) hdg kk
/-- a switch's place, by what its number isn't -/
theorem sw_ne {x k : Int32} {a : Int} (h : ¬ x = k) (hk : k.toInt = a) : ¬ x.toInt = a := lv_neT h hk
end G4
theorem jn_some0 {γ : Type} {A : (Option γ) → Option γ} {K : Option γ} {r : γ} (h : jn A K = some r) : ∃ k : Option γ, (k = K) ∧ A k = some r := ⟨K, rfl, h⟩
theorem jn_some1 {α0 γ : Type} {A : (α0 → Option γ) → Option γ} {K : α0 → Option γ} {r : γ} (h : jn A K = some r) : ∃ k : α0 → Option γ, (∀ (a0 : α0), k a0 = K a0) ∧ A k = some r := ⟨K, fun _ => rfl, h⟩
theorem jn_some2 {α0 α1 γ : Type} {A : (α0 → α1 → Option γ) → Option γ} {K : α0 → α1 → Option γ} {r : γ} (h : jn A K = some r) : ∃ k : α0 → α1 → Option γ, (∀ (a0 : α0) (a1 : α1), k a0 a1 = K a0 a1) ∧ A k = some r := ⟨K, fun _ _ => rfl, h⟩
theorem jn_some3 {α0 α1 α2 γ : Type} {A : (α0 → α1 → α2 → Option γ) → Option γ} {K : α0 → α1 → α2 → Option γ} {r : γ} (h : jn A K = some r) : ∃ k : α0 → α1 → α2 → Option γ, (∀ (a0 : α0) (a1 : α1) (a2 : α2), k a0 a1 a2 = K a0 a1 a2) ∧ A k = some r := ⟨K, fun _ _ _ => rfl, h⟩
theorem jn_some4 {α0 α1 α2 α3 γ : Type} {A : (α0 → α1 → α2 → α3 → Option γ) → Option γ} {K : α0 → α1 → α2 → α3 → Option γ} {r : γ} (h : jn A K = some r) : ∃ k : α0 → α1 → α2 → α3 → Option γ, (∀ (a0 : α0) (a1 : α1) (a2 : α2) (a3 : α3), k a0 a1 a2 a3 = K a0 a1 a2 a3) ∧ A k = some r := ⟨K, fun _ _ _ _ => rfl, h⟩
theorem jn_some5 {α0 α1 α2 α3 α4 γ : Type} {A : (α0 → α1 → α2 → α3 → α4 → Option γ) → Option γ} {K : α0 → α1 → α2 → α3 → α4 → Option γ} {r : γ} (h : jn A K = some r) : ∃ k : α0 → α1 → α2 → α3 → α4 → Option γ, (∀ (a0 : α0) (a1 : α1) (a2 : α2) (a3 : α3) (a4 : α4), k a0 a1 a2 a3 a4 = K a0 a1 a2 a3 a4) ∧ A k = some r := ⟨K, fun _ _ _ _ _ => rfl, h⟩
theorem jn_some6 {α0 α1 α2 α3 α4 α5 γ : Type} {A : (α0 → α1 → α2 → α3 → α4 → α5 → Option γ) → Option γ} {K : α0 → α1 → α2 → α3 → α4 → α5 → Option γ} {r : γ} (h : jn A K = some r) : ∃ k : α0 → α1 → α2 → α3 → α4 → α5 → Option γ, (∀ (a0 : α0) (a1 : α1) (a2 : α2) (a3 : α3) (a4 : α4) (a5 : α5), k a0 a1 a2 a3 a4 a5 = K a0 a1 a2 a3 a4 a5) ∧ A k = some r := ⟨K, fun _ _ _ _ _ _ => rfl, h⟩
theorem jn_some7 {α0 α1 α2 α3 α4 α5 α6 γ : Type} {A : (α0 → α1 → α2 → α3 → α4 → α5 → α6 → Option γ) → Option γ} {K : α0 → α1 → α2 → α3 → α4 → α5 → α6 → Option γ} {r : γ} (h : jn A K = some r) : ∃ k : α0 → α1 → α2 → α3 → α4 → α5 → α6 → Option γ, (∀ (a0 : α0) (a1 : α1) (a2 : α2) (a3 : α3) (a4 : α4) (a5 : α5) (a6 : α6), k a0 a1 a2 a3 a4 a5 a6 = K a0 a1 a2 a3 a4 a5 a6) ∧ A k = some r := ⟨K, fun _ _ _ _ _ _ _ => rfl, h⟩
end
section
/-! Integer.bitCount, the JDK's own -/
def usr (x y : Int32) : Int32 := (x.toUInt32 >>> (y.toUInt32 &&& Int32.toUInt32 31)).toInt32
def bcA (i : Int32) : Int32 := i - (usr i 1 &&& 1431655765)
def bcB (i : Int32) : Int32 := (i &&& 858993459) + (usr i 2 &&& 858993459)
def bcC (i : Int32) : Int32 := (i + usr i 4) &&& 252645135
def bcD (i : Int32) : Int32 := i + usr i 8
def bcE (i : Int32) : Int32 := i + usr i 16
def bcI (x : Int32) : Int32 := bcE (bcD (bcC (bcB (bcA x)))) &&& 63
set_option maxHeartbeats 4000000 in
set_option maxRecDepth 100000 in
theorem c_J6_bitCount (C : CF) (ad : Nat → Nat) (D : va_G) (cy : Nat → ClassId) (l : Launch) (N : Nat) (x : Int32) {M : Mem} : MetX l N C D cy ad yJ6_bitCount_0f7a4 cJ6_bitCount_0f7a4 1 (some .int) 0 [.int x] M (fun A => QI (bcI x) M N C D cy ad A) := by
  refine MetX.of (own := RJ6) (by decide) rfl (Nat.le_of_ble_eq_true rfl) ?_
  intro p e s m below meth c A Q ls X hr hlk hZ hA hQ hW hl
  have hl : lv_has ls 1 [(0, .int x)] := hl
  have hx := X.1
  have hb := X.2.1
  refine lv_iload_n hx hb dJ6_bitCount_0f7a4_0 rfl (lv_at hl 0 rfl) ?_
  refine lv_iload_n hx hb dJ6_bitCount_0f7a4_1 rfl (lv_at hl 0 rfl) ?_
  refine lv_iconst (v := 1) hx hb dJ6_bitCount_0f7a4_2 (by decide) ?_
  refine lv_iushr (v := usr x 1) hx hb dJ6_bitCount_0f7a4_3 rfl ?_
  refine lv_ldcw (v := 1431655765) hx hb X.2.2.2.1 (X.2.2.2.2.1 _ qk_J6_265) dJ6_bitCount_0f7a4_4 ?_
  refine lv_iand hx hb dJ6_bitCount_0f7a4_7 ?_
  refine lv_isub hx hb dJ6_bitCount_0f7a4_8 ?_
  refine lv_istore_n (lv' := [(0, .int (bcA x))]) hx hb dJ6_bitCount_0f7a4_9 rfl hl (by decide) rfl (fun ls hl => ?_)
  have hQ : Q = MQ below (QI (bcE (bcD (bcC (bcB (bcA x)))) &&& 63) M N C D cy ad A) ([.int x] : List Value).toArray s 0 0 A := hQ
  generalize bcA x = i1 at hl hQ
  refine lv_iload_n hx hb dJ6_bitCount_0f7a4_10 rfl (lv_at hl 0 rfl) ?_
  refine lv_ldcw (v := 858993459) hx hb X.2.2.2.1 (X.2.2.2.2.1 _ qk_J6_266) dJ6_bitCount_0f7a4_11 ?_
  refine lv_iand hx hb dJ6_bitCount_0f7a4_14 ?_
  refine lv_iload_n hx hb dJ6_bitCount_0f7a4_15 rfl (lv_at hl 0 rfl) ?_
  refine lv_iconst (v := 2) hx hb dJ6_bitCount_0f7a4_16 (by decide) ?_
  refine lv_iushr (v := usr i1 2) hx hb dJ6_bitCount_0f7a4_17 rfl ?_
  refine lv_ldcw (v := 858993459) hx hb X.2.2.2.1 (X.2.2.2.2.1 _ qk_J6_266) dJ6_bitCount_0f7a4_18 ?_
  refine lv_iand hx hb dJ6_bitCount_0f7a4_21 ?_
  refine lv_iadd hx hb dJ6_bitCount_0f7a4_22 ?_
  refine lv_istore_n (lv' := [(0, .int (bcB i1))]) hx hb dJ6_bitCount_0f7a4_23 rfl hl (by decide) rfl (fun ls hl => ?_)
  generalize bcB i1 = i2 at hl hQ
  refine lv_iload_n hx hb dJ6_bitCount_0f7a4_24 rfl (lv_at hl 0 rfl) ?_
  refine lv_iload_n hx hb dJ6_bitCount_0f7a4_25 rfl (lv_at hl 0 rfl) ?_
  refine lv_iconst (v := 4) hx hb dJ6_bitCount_0f7a4_26 (by decide) ?_
  refine lv_iushr (v := usr i2 4) hx hb dJ6_bitCount_0f7a4_27 rfl ?_
  refine lv_iadd hx hb dJ6_bitCount_0f7a4_28 ?_
  refine lv_ldcw (v := 252645135) hx hb X.2.2.2.1 (X.2.2.2.2.1 _ qk_J6_267) dJ6_bitCount_0f7a4_29 ?_
  refine lv_iand hx hb dJ6_bitCount_0f7a4_32 ?_
  refine lv_istore_n (lv' := [(0, .int (bcC i2))]) hx hb dJ6_bitCount_0f7a4_33 rfl hl (by decide) rfl (fun ls hl => ?_)
  generalize bcC i2 = i3 at hl hQ
  refine lv_iload_n hx hb dJ6_bitCount_0f7a4_34 rfl (lv_at hl 0 rfl) ?_
  refine lv_iload_n hx hb dJ6_bitCount_0f7a4_35 rfl (lv_at hl 0 rfl) ?_
  refine lv_bipush (v := 8) hx hb dJ6_bitCount_0f7a4_36 (by decide) ?_
  refine lv_iushr (v := usr i3 8) hx hb dJ6_bitCount_0f7a4_38 rfl ?_
  refine lv_iadd hx hb dJ6_bitCount_0f7a4_39 ?_
  refine lv_istore_n (lv' := [(0, .int (bcD i3))]) hx hb dJ6_bitCount_0f7a4_40 rfl hl (by decide) rfl (fun ls hl => ?_)
  generalize bcD i3 = i4 at hl hQ
  refine lv_iload_n hx hb dJ6_bitCount_0f7a4_41 rfl (lv_at hl 0 rfl) ?_
  refine lv_iload_n hx hb dJ6_bitCount_0f7a4_42 rfl (lv_at hl 0 rfl) ?_
  refine lv_bipush (v := 16) hx hb dJ6_bitCount_0f7a4_43 (by decide) ?_
  refine lv_iushr (v := usr i4 16) hx hb dJ6_bitCount_0f7a4_45 rfl ?_
  refine lv_iadd hx hb dJ6_bitCount_0f7a4_46 ?_
  refine lv_istore_n (lv' := [(0, .int (bcE i4))]) hx hb dJ6_bitCount_0f7a4_47 rfl hl (by decide) rfl (fun ls hl => ?_)
  refine lv_iload_n hx hb dJ6_bitCount_0f7a4_48 rfl (lv_at hl 0 rfl) ?_
  refine lv_bipush (v := 63) hx hb dJ6_bitCount_0f7a4_49 (by decide) ?_
  refine lv_iand hx hb dJ6_bitCount_0f7a4_51 ?_
  exact g_iret X hr hlk hQ hW dJ6_bitCount_0f7a4_52 rfl
end
section
/-! walks, by program out of the listing: 20.walk_X0a -/
def f_X0_kindOf_L2 (v0_L2 : Int32) (M : Mem) : Nat → Int32 → Option Int32
  | 0, _ => none
  | n + 1, v1_L2 => (if 6 ≤ v1_L2 then (some (-1)) else (grd (inb v1_L2 6) (if (lett (ix v1_L2)) = v0_L2 then (some v1_L2) else (f_X0_kindOf_L2 v0_L2 M n (v1_L2 + 1)))))
def f_X0_kindOf (v0 : Int32) (M : Mem) : Option Int32 :=
  (f_X0_kindOf_L2 v0 M FU 0)
set_option maxHeartbeats 4000000 in
set_option maxRecDepth 100000 in
theorem c_X0_kindOf (l : Launch) (D : va_G) (cy : Nat → ClassId) (ad : Nat → Nat)   {v0 : Int32} {M : Mem} {r : Int32} (hf : f_X0_kindOf v0 M = some r) : MetX l 43 (CC ad cy) D cy ad yX0_kindOf cX0_kindOf 2 (some .int) 0 [.int v0] M (fun A => QI r M 43 (CC ad cy) D cy ad A) := by
  refine MetX.of (own := RX0) (by decide) rfl (Nat.le_of_ble_eq_true rfl) ?_
  intro p e s m below meth c A Q ls X hr hlk hZ hA hQ hW hl
  have hl : lv_has ls 2 [(0, .int v0)] := hl
  have hx := X.1
  have hb := X.2.1
  have hL2 : ∀ (v0_L2 : Int32)  (n : Nat) (v1_L2 : Int32) (H : Heap) (locs : List Loc) (ls : Array Slot), f_X0_kindOf_L2 v0_L2 M n v1_L2 = some r → Wd D 43 ad (CC ad cy) A s.heap M H locs → lv_has ls 2 [(0, .int v0_L2), (1, .int v1_L2)] → W p l e (rmD 0) s m ([.int v0] : List Value).toArray below meth c H locs 0 0 Q (F0 m 2 ls []) := by
    intro v0_L2 n
    induction n with
    | zero =>
      intro v1_L2 H locs ls hf
      cases (show (none : Option Int32) = some r from hf)
    | succ n ih =>
      intro v1_L2 H locs ls hf hW hl
      rw [f_X0_kindOf_L2] at hf
      refine lv_iload_n hx hb dX0_kindOf_2 rfl (lv_at hl 1 rfl) ?_
      obtain ⟨tL, hZ1, hZ2⟩ := id hZ
      refine va_getsN hx hb hZ1 hW.2.2 X.2.2.2.1 (va_Nw.use rfl (X.2.2.2.2.2.2.1 (RX0, 45, RX1, "LETTERS", "[B", "TubeWords") (by decide +kernel))) (fun _ h9 => h9) dX0_kindOf_3 ?_
      refine va_tlen hx hb hZ2 hW.2.2 (v := 6) rfl dX0_kindOf_6 ?_
      refine lv_icmp_ge (tgt := 27) hx hb dX0_kindOf_7 (by decide) (fun hc => ?_) (fun hc => ?_)
      · replace hf := ifp hc hf
        refine lv_iconst (v := (-1)) hx hb dX0_kindOf_27 (by decide) ?_
        exact g_iret X hr hlk hQ hW dX0_kindOf_28 (rd_some hf)
      · replace hf := ifn hc hf
        obtain ⟨tL, hZ1, hZ2⟩ := id hZ
        refine va_getsN hx hb hZ1 hW.2.2 X.2.2.2.1 (va_Nw.use rfl (X.2.2.2.2.2.2.1 (RX0, 45, RX1, "LETTERS", "[B", "TubeWords") (by decide +kernel))) (fun _ h9 => h9) dX0_kindOf_10 ?_
        refine lv_iload_n hx hb dX0_kindOf_13 rfl (lv_at hl 1 rfl) ?_
        obtain ⟨hi14, hf⟩ := grd_some hf
        refine va_tb hx hb hZ2 hW.2.2 (inb_in hi14) (v := .int (lett (ix v1_L2))) rfl dX0_kindOf_14 ?_
        refine lv_iload_n hx hb dX0_kindOf_15 rfl (lv_at hl 0 rfl) ?_
        refine lv_icmp_ne (tgt := 21) hx hb dX0_kindOf_16 (by decide) (fun hc => ?_) (fun hc => ?_)
        · replace hf := ifn hc hf
          refine lv_iinc (v := (v1_L2 + 1)) (lv' := [(1, .int (v1_L2 + 1)), (0, .int v0_L2)]) hx hb dX0_kindOf_21 hl (k := 1) rfl rfl (by decide) rfl (fun ls hl => ?_)
          refine lv_goto (tgt := 2) hx hb dX0_kindOf_24 (by decide) ?_
          exact ih (v1_L2 + 1) H locs ls hf hW (lv_sub hl [1, 0] rfl)
        · replace hf := ifp hc hf
          refine lv_iload_n hx hb dX0_kindOf_19 rfl (lv_at hl 1 rfl) ?_
          exact g_iret X hr hlk hQ hW dX0_kindOf_20 (rd_some hf)
  obtain ⟨H, hH⟩ : ∃ H, H = s.heap := ⟨_, rfl⟩
  obtain ⟨locs, hlo⟩ : ∃ q : List Loc, q = [] := ⟨_, rfl⟩
  have hW : Wd D 43 ad (CC ad cy) A s.heap M H locs := by rw [hH, hlo]; exact hW
  suffices hh : W p l e (rmD 0) s m ([.int v0] : List Value).toArray below meth c H locs 0 0 Q (F0 m 0 ls []) by rw [hH, hlo] at hh; exact hh
  unfold f_X0_kindOf at hf
  refine lv_iconst (v := 0) hx hb dX0_kindOf_0 (by decide) ?_
  refine lv_istore_n (lv' := [(1, .int 0), (0, .int v0)]) hx hb dX0_kindOf_1 rfl hl (by decide) rfl (fun ls hl => ?_)
  exact hL2 v0 FU 0 H locs ls hf hW (lv_sub hl [1, 0] rfl)

def f_X0_takeSign (o : Nat) (v1 : Int32) (v2 : Int32) (M : Mem) : Option (Int32 × Mem) :=
  (if v2 = 0 then (bR (f_X0_kindOf v1 M) (fun r5 => (grd (inb (M.1 o 6) 7) (if r5 = (-1) then (some (0, (sI M (o + 1) (ix (M.1 o 6)) r5))) else (some (1, (sI M (o + 1) (ix (M.1 o 6)) r5))))))) else (jn (fun (k42 : Int32 → Option (Int32 × Mem)) => (if v2 = 1 then (k42 50) else (k42 48))) (fun (t0_42j : Int32) => (jn (fun (k77 : Mem → Option (Int32 × Mem)) => (if v2 = 1 then (grd (inb (M.1 o 6) 7) (k77 (sI M (o + 2) (ix (M.1 o 6)) (v1 - 48)))) else (grd (inb (M.1 o 6) 7) (k77 (sI M (o + 3) (ix (M.1 o 6)) (v1 - 48)))))) (fun  (M_77j : Mem) => (if v1 < t0_42j then (some (0, M_77j)) else (if 57 < v1 then (some (0, M_77j)) else (some (1, M_77j)))))))))
set_option maxHeartbeats 4000000 in
set_option maxRecDepth 100000 in
theorem c_X0_takeSign (l : Launch) (D : va_G) (cy : Nat → ClassId) (ad : Nat → Nat) {o : Nat} (ho : isSt o) {v1 : Int32} {v2 : Int32} {M M' : Mem} {r : Int32} (hf : f_X0_takeSign o v1 v2 M = some (r, M')) : MetX l 43 (CC ad cy) D cy ad yX0_takeSign cX0_takeSign 4 (some .boolean) 1 [.ref (ad o), .int v1, .int v2] M (fun A => QI r M' 43 (CC ad cy) D cy ad A) := by
  refine MetX.of (own := RX0) (by decide) rfl (Nat.le_of_ble_eq_true rfl) ?_
  intro p e s m below meth c A Q ls X hr hlk hZ hA hQ hW hl
  have hl : lv_has ls 4 [(0, .ref (ad o)), (1, .int v1), (2, .int v2)] := hl
  have hx := X.1
  have hb := X.2.1
  obtain ⟨H, hH⟩ : ∃ H, H = s.heap := ⟨_, rfl⟩
  obtain ⟨locs, hlo⟩ : ∃ q : List Loc, q = [] := ⟨_, rfl⟩
  have hW : Wd D 43 ad (CC ad cy) A s.heap M H locs := by rw [hH, hlo]; exact hW
  suffices hh : W p l e (rmD 1) s m ([.ref (ad o), .int v1, .int v2] : List Value).toArray below meth c H locs 0 0 Q (F0 m 0 ls []) by rw [hH, hlo] at hh; exact hh
  unfold f_X0_takeSign at hf
  refine lv_iload_n hx hb dX0_takeSign_0 rfl (lv_at hl 2 rfl) ?_
  refine lv_if_ne (tgt := 30) hx hb dX0_takeSign_1 (by decide) (fun hc => ?_) (fun hc => ?_)
  · replace hf := ifn hc hf
    refine lv_iload_n hx hb dX0_takeSign_30 rfl (lv_at hl 2 rfl) ?_
    refine lv_iconst (v := 1) hx hb dX0_takeSign_31 (by decide) ?_
    obtain ⟨k42, hk42, hf⟩ := jn_some1 hf
    have hJ42 : ∀ (t0_42j : Int32) (H : Heap) (locs : List Loc) (ls : Array Slot), k42 t0_42j = some (r, M') → Wd D 43 ad (CC ad cy) A s.heap M H locs → lv_has ls 4 [(0, .ref (ad o)), (1, .int v1), (2, .int v2)] → W p l e (rmD 1) s m ([.ref (ad o), .int v1, .int v2] : List Value).toArray below meth c H locs 0 0 Q (F0 m 42 ls [.int t0_42j]) := by
      intro t0_42j H locs ls hf hW hl
      rw [hk42] at hf
      refine lv_istore_n (lv' := [(3, .int t0_42j), (0, .ref (ad o)), (1, .int v1), (2, .int v2)]) hx hb dX0_takeSign_42 rfl hl (by decide) rfl (fun ls hl => ?_)
      refine lv_iload_n hx hb dX0_takeSign_43 rfl (lv_at hl 3 rfl) ?_
      refine lv_iconst (v := 1) hx hb dX0_takeSign_44 (by decide) ?_
      obtain ⟨k77, hk77, hf⟩ := jn_some1 hf
      have hJ77 : ∀  (M_77j : Mem) (H : Heap) (locs : List Loc) (ls : Array Slot), k77 M_77j = some (r, M') → Wd D 43 ad (CC ad cy) A s.heap M_77j H locs → lv_has ls 4 [(1, .int v1), (3, .int t0_42j)] → W p l e (rmD 1) s m ([.ref (ad o), .int v1, .int v2] : List Value).toArray below meth c H locs 0 0 Q (F0 m 77 ls []) := by
        intro M_77j H locs ls hf hW hl
        rw [hk77] at hf
        refine lv_iload_n hx hb dX0_takeSign_77 rfl (lv_at hl 0 rfl) ?_
        refine lv_iload_n hx hb dX0_takeSign_78 rfl (lv_at hl 1 rfl) ?_
        refine lv_icmp_lt (tgt := 92) hx hb dX0_takeSign_79 (by decide) (fun hc => ?_) (fun hc => ?_)
        · replace hf := ifp hc hf
          refine lv_iconst (v := 0) hx hb dX0_takeSign_92 (by decide) ?_
          exact g_zret X hr hlk hQ hW dX0_takeSign_93 (by decide) hf
        · replace hf := ifn hc hf
          refine lv_iload_n hx hb dX0_takeSign_82 rfl (lv_at hl 0 rfl) ?_
          refine lv_bipush (v := 57) hx hb dX0_takeSign_83 (by decide) ?_
          refine lv_icmp_gt (tgt := 92) hx hb dX0_takeSign_85 (by decide) (fun hc => ?_) (fun hc => ?_)
          · replace hf := ifp hc hf
            refine lv_iconst (v := 0) hx hb dX0_takeSign_92 (by decide) ?_
            exact g_zret X hr hlk hQ hW dX0_takeSign_93 (by decide) hf
          · replace hf := ifn hc hf
            refine lv_iconst (v := 1) hx hb dX0_takeSign_88 (by decide) ?_
            refine lv_goto (tgt := 93) hx hb dX0_takeSign_89 (by decide) ?_
            exact g_zret X hr hlk hQ hW dX0_takeSign_93 (by decide) hf
      refine lv_icmp_ne (tgt := 64) hx hb dX0_takeSign_45 (by decide) (fun hc => ?_) (fun hc => ?_)
      · replace hf := ifn hc hf
        refine lv_aload_n hx hb dX0_takeSign_64 rfl (lv_at hl 1 rfl) ?_
        refine gf_X0_18 ho X hW dX0_takeSign_65 ?_
        refine lv_aload_n hx hb dX0_takeSign_68 rfl (lv_at hl 1 rfl) ?_
        refine gf_X0_30 ho X hW dX0_takeSign_69 ?_
        refine lv_iload_n hx hb dX0_takeSign_72 rfl (lv_at hl 2 rfl) ?_
        refine lv_bipush (v := 48) hx hb dX0_takeSign_73 (by decide) ?_
        refine lv_isub hx hb dX0_takeSign_75 ?_
        obtain ⟨hi76, hf⟩ := grd_some hf
        refine g_iast X hW (iA_st3 ho) hi76 dX0_takeSign_76 (fun H locs hW => ?_)
        exact hJ77 (sI M (o + 3) (ix (M.1 o 6)) (v1 - 48)) H locs ls hf hW (lv_sub hl [2, 0] rfl)
      · replace hf := ifp hc hf
        refine lv_aload_n hx hb dX0_takeSign_48 rfl (lv_at hl 1 rfl) ?_
        refine gf_X0_15 ho X hW dX0_takeSign_49 ?_
        refine lv_aload_n hx hb dX0_takeSign_52 rfl (lv_at hl 1 rfl) ?_
        refine gf_X0_30 ho X hW dX0_takeSign_53 ?_
        refine lv_iload_n hx hb dX0_takeSign_56 rfl (lv_at hl 2 rfl) ?_
        refine lv_bipush (v := 48) hx hb dX0_takeSign_57 (by decide) ?_
        refine lv_isub hx hb dX0_takeSign_59 ?_
        obtain ⟨hi60, hf⟩ := grd_some hf
        refine g_iast X hW (iA_st2 ho) hi60 dX0_takeSign_60 (fun H locs hW => ?_)
        refine lv_goto (tgt := 77) hx hb dX0_takeSign_61 (by decide) ?_
        exact hJ77 (sI M (o + 2) (ix (M.1 o 6)) (v1 - 48)) H locs ls hf hW (lv_sub hl [2, 0] rfl)
    refine lv_icmp_ne (tgt := 40) hx hb dX0_takeSign_32 (by decide) (fun hc => ?_) (fun hc => ?_)
    · replace hf := ifn hc hf
      refine lv_bipush (v := 48) hx hb dX0_takeSign_40 (by decide) ?_
      exact hJ42 48 H locs ls hf hW (lv_sub hl [0, 1, 2] rfl)
    · replace hf := ifp hc hf
      refine lv_bipush (v := 50) hx hb dX0_takeSign_35 (by decide) ?_
      refine lv_goto (tgt := 42) hx hb dX0_takeSign_37 (by decide) ?_
      exact hJ42 50 H locs ls hf hW (lv_sub hl [0, 1, 2] rfl)
  · replace hf := ifp hc hf
    refine lv_iload_n hx hb dX0_takeSign_4 rfl (lv_at hl 1 rfl) ?_
    obtain ⟨r5, h5, hf⟩ := bR_some hf
    refine g_calliS X hl.1 hZ hA hW (c_X0_kindOf l D cy ad h5) cs_X0_kindOf ql_X0_41 rfl (by decide) rfl (Nat.le_of_ble_eq_true rfl) dX0_takeSign_5 (fun H locs hW => ?_)
    refine lv_istore_n (lv' := [(3, .int r5), (0, .ref (ad o)), (1, .int v1), (2, .int v2)]) hx hb dX0_takeSign_8 rfl hl (by decide) rfl (fun ls hl => ?_)
    refine lv_aload_n hx hb dX0_takeSign_9 rfl (lv_at hl 1 rfl) ?_
    refine gf_X0_9 ho X hW dX0_takeSign_10 ?_
    refine lv_aload_n hx hb dX0_takeSign_13 rfl (lv_at hl 1 rfl) ?_
    refine gf_X0_30 ho X hW dX0_takeSign_14 ?_
    refine lv_iload_n hx hb dX0_takeSign_17 rfl (lv_at hl 0 rfl) ?_
    obtain ⟨hi18, hf⟩ := grd_some hf
    refine g_iast X hW (iA_st1 ho) hi18 dX0_takeSign_18 (fun H locs hW => ?_)
    refine lv_iload_n hx hb dX0_takeSign_19 rfl (lv_at hl 0 rfl) ?_
    refine lv_iconst (v := (-1)) hx hb dX0_takeSign_20 (by decide) ?_
    refine lv_icmp_eq (tgt := 28) hx hb dX0_takeSign_21 (by decide) (fun hc => ?_) (fun hc => ?_)
    · replace hf := ifp hc hf
      refine lv_iconst (v := 0) hx hb dX0_takeSign_28 (by decide) ?_
      exact g_zret X hr hlk hQ hW dX0_takeSign_29 (by decide) hf
    · replace hf := ifn hc hf
      refine lv_iconst (v := 1) hx hb dX0_takeSign_24 (by decide) ?_
      refine lv_goto (tgt := 29) hx hb dX0_takeSign_25 (by decide) ?_
      exact g_zret X hr hlk hQ hW dX0_takeSign_29 (by decide) hf

def f_X0_beginAnew_L2 (o : Nat) (k28 : Mem → Option Mem) : Nat → Int32 → Mem → Option Mem
  | 0, _, _ => none
  | n + 1, v1_L2, M_L2 => (if 7 ≤ v1_L2 then (k28 M_L2) else (grd (inb v1_L2 7) (grd (inb v1_L2 7) (f_X0_beginAnew_L2 o k28 n (v1_L2 + 1) (sI (sI M_L2 (o + 4) (ix v1_L2) 0) (o + 5) (ix v1_L2) v1_L2)))))
def f_X0_beginAnew (o : Nat) (M : Mem) : Option Mem :=
  (jn (fun (k28 : Mem → Option Mem) => (f_X0_beginAnew_L2 o k28 FU 0 M)) (fun  (M_28x : Mem) => (some (sI M_28x o 7 0))))
set_option maxHeartbeats 4000000 in
set_option maxRecDepth 100000 in
theorem c_X0_beginAnew (l : Launch) (D : va_G) (cy : Nat → ClassId) (ad : Nat → Nat) {o : Nat} (ho : isSt o)  {M M' : Mem} (hf : f_X0_beginAnew o M = some M') : MetX l 43 (CC ad cy) D cy ad yX0_beginAnew cX0_beginAnew 2 none 0 [.ref (ad o)] M (fun A => QV M' 43 (CC ad cy) D cy ad A) := by
  refine MetX.of (own := RX0) (by decide) rfl (Nat.le_of_ble_eq_true rfl) ?_
  intro p e s m below meth c A Q ls X hr hlk hZ hA hQ hW hl
  have hl : lv_has ls 2 [(0, .ref (ad o))] := hl
  have hx := X.1
  have hb := X.2.1
  have hL2 : ∀  (k28 : Mem → Option Mem) (hJ28 : ∀  (M_28x : Mem) (H : Heap) (locs : List Loc) (ls : Array Slot), k28 M_28x = some M' → Wd D 43 ad (CC ad cy) A s.heap M_28x H locs → lv_has ls 2 [(0, .ref (ad o))] → W p l e (rmD 0) s m ([.ref (ad o)] : List Value).toArray below meth c H locs 0 0 Q (F0 m 28 ls [])) (n : Nat) (v1_L2 : Int32) (M_L2 : Mem) (H : Heap) (locs : List Loc) (ls : Array Slot), f_X0_beginAnew_L2 o k28 n v1_L2 M_L2 = some M' → Wd D 43 ad (CC ad cy) A s.heap M_L2 H locs → lv_has ls 2 [(0, .ref (ad o)), (1, .int v1_L2)] → W p l e (rmD 0) s m ([.ref (ad o)] : List Value).toArray below meth c H locs 0 0 Q (F0 m 2 ls []) := by
    intro k28 hJ28 n
    induction n with
    | zero =>
      intro v1_L2 M_L2 H locs ls hf
      cases (show (none : Option Mem) = some M' from hf)
    | succ n ih =>
      intro v1_L2 M_L2 H locs ls hf hW hl
      rw [f_X0_beginAnew_L2] at hf
      refine lv_iload_n hx hb dX0_beginAnew_2 rfl (lv_at hl 1 rfl) ?_
      refine lv_bipush (v := 7) hx hb dX0_beginAnew_3 (by decide) ?_
      refine lv_icmp_ge (tgt := 28) hx hb dX0_beginAnew_5 (by decide) (fun hc => ?_) (fun hc => ?_)
      · replace hf := ifp hc hf
        exact hJ28 M_L2 H locs ls hf hW (lv_sub hl [0] rfl)
      · replace hf := ifn hc hf
        refine lv_aload_n hx hb dX0_beginAnew_8 rfl (lv_at hl 0 rfl) ?_
        refine gf_X0_21 ho X hW dX0_beginAnew_9 ?_
        refine lv_iload_n hx hb dX0_beginAnew_12 rfl (lv_at hl 1 rfl) ?_
        refine lv_iconst (v := 0) hx hb dX0_beginAnew_13 (by decide) ?_
        obtain ⟨hi14, hf⟩ := grd_some hf
        refine g_iast X hW (iA_st4 ho) hi14 dX0_beginAnew_14 (fun H locs hW => ?_)
        refine lv_aload_n hx hb dX0_beginAnew_15 rfl (lv_at hl 0 rfl) ?_
        refine gf_X0_24 ho X hW dX0_beginAnew_16 ?_
        refine lv_iload_n hx hb dX0_beginAnew_19 rfl (lv_at hl 1 rfl) ?_
        refine lv_iload_n hx hb dX0_beginAnew_20 rfl (lv_at hl 1 rfl) ?_
        obtain ⟨hi21, hf⟩ := grd_some hf
        refine g_iast X hW (iA_st5 ho) hi21 dX0_beginAnew_21 (fun H locs hW => ?_)
        refine lv_iinc (v := (v1_L2 + 1)) (lv' := [(1, .int (v1_L2 + 1)), (0, .ref (ad o))]) hx hb dX0_beginAnew_22 hl (k := 1) rfl rfl (by decide) rfl (fun ls hl => ?_)
        refine lv_goto (tgt := 2) hx hb dX0_beginAnew_25 (by decide) ?_
        exact ih (v1_L2 + 1) (sI (sI M_L2 (o + 4) (ix v1_L2) 0) (o + 5) (ix v1_L2) v1_L2) H locs ls hf hW (lv_sub hl [1, 0] rfl)
  obtain ⟨H, hH⟩ : ∃ H, H = s.heap := ⟨_, rfl⟩
  obtain ⟨locs, hlo⟩ : ∃ q : List Loc, q = [] := ⟨_, rfl⟩
  have hW : Wd D 43 ad (CC ad cy) A s.heap M H locs := by rw [hH, hlo]; exact hW
  suffices hh : W p l e (rmD 0) s m ([.ref (ad o)] : List Value).toArray below meth c H locs 0 0 Q (F0 m 0 ls []) by rw [hH, hlo] at hh; exact hh
  unfold f_X0_beginAnew at hf
  refine lv_iconst (v := 0) hx hb dX0_beginAnew_0 (by decide) ?_
  refine lv_istore_n (lv' := [(1, .int 0), (0, .ref (ad o))]) hx hb dX0_beginAnew_1 rfl hl (by decide) rfl (fun ls hl => ?_)
  obtain ⟨k28, hk28, hf⟩ := jn_some1 hf
  have hJ28 : ∀  (M_28x : Mem) (H : Heap) (locs : List Loc) (ls : Array Slot), k28 M_28x = some M' → Wd D 43 ad (CC ad cy) A s.heap M_28x H locs → lv_has ls 2 [(0, .ref (ad o))] → W p l e (rmD 0) s m ([.ref (ad o)] : List Value).toArray below meth c H locs 0 0 Q (F0 m 28 ls []) := by
    intro M_28x H locs ls hf hW hl
    rw [hk28] at hf
    refine lv_aload_n hx hb dX0_beginAnew_28 rfl (lv_at hl 0 rfl) ?_
    refine lv_iconst (v := 0) hx hb dX0_beginAnew_29 (by decide) ?_
    refine gp_X0_34 ho X hW dX0_beginAnew_30 (fun H locs hW => ?_)
    exact g_vret X hr hlk hQ hW dX0_beginAnew_33 hf
  exact hL2 k28 hJ28 FU 0 M H locs ls hf hW (lv_sub hl [1, 0] rfl)

def f_X0_takeFrom (o : Nat) (o1 : Nat) (M : Mem) : Option Mem :=
  (grd (cpk 0 0 7 7 7) (grd (cpk 0 0 7 7 7) (grd (cpk 0 0 7 7 7) (grd (cpk 0 0 7 7 7) (grd (cpk 0 0 7 7 7) (some (sI (sI (sA (sA (sA (sA (sA M (o + 1) (va_cpy (M.1 (o1 + 1)) (M.1 (o + 1)) (ix 0) (ix 0) (ix 7))) (o + 2) (va_cpy ((sA M (o + 1) (va_cpy (M.1 (o1 + 1)) (M.1 (o + 1)) (ix 0) (ix 0) (ix 7))).1 (o1 + 2)) ((sA M (o + 1) (va_cpy (M.1 (o1 + 1)) (M.1 (o + 1)) (ix 0) (ix 0) (ix 7))).1 (o + 2)) (ix 0) (ix 0) (ix 7))) (o + 3) (va_cpy ((sA (sA M (o + 1) (va_cpy (M.1 (o1 + 1)) (M.1 (o + 1)) (ix 0) (ix 0) (ix 7))) (o + 2) (va_cpy ((sA M (o + 1) (va_cpy (M.1 (o1 + 1)) (M.1 (o + 1)) (ix 0) (ix 0) (ix 7))).1 (o1 + 2)) ((sA M (o + 1) (va_cpy (M.1 (o1 + 1)) (M.1 (o + 1)) (ix 0) (ix 0) (ix 7))).1 (o + 2)) (ix 0) (ix 0) (ix 7))).1 (o1 + 3)) ((sA (sA M (o + 1) (va_cpy (M.1 (o1 + 1)) (M.1 (o + 1)) (ix 0) (ix 0) (ix 7))) (o + 2) (va_cpy ((sA M (o + 1) (va_cpy (M.1 (o1 + 1)) (M.1 (o + 1)) (ix 0) (ix 0) (ix 7))).1 (o1 + 2)) ((sA M (o + 1) (va_cpy (M.1 (o1 + 1)) (M.1 (o + 1)) (ix 0) (ix 0) (ix 7))).1 (o + 2)) (ix 0) (ix 0) (ix 7))).1 (o + 3)) (ix 0) (ix 0) (ix 7))) (o + 4) (va_cpy ((sA (sA (sA M (o + 1) (va_cpy (M.1 (o1 + 1)) (M.1 (o + 1)) (ix 0) (ix 0) (ix 7))) (o + 2) (va_cpy ((sA M (o + 1) (va_cpy (M.1 (o1 + 1)) (M.1 (o + 1)) (ix 0) (ix 0) (ix 7))).1 (o1 + 2)) ((sA M (o + 1) (va_cpy (M.1 (o1 + 1)) (M.1 (o + 1)) (ix 0) (ix 0) (ix 7))).1 (o + 2)) (ix 0) (ix 0) (ix 7))) (o + 3) (va_cpy ((sA (sA M (o + 1) (va_cpy (M.1 (o1 + 1)) (M.1 (o + 1)) (ix 0) (ix 0) (ix 7))) (o + 2) (va_cpy ((sA M (o + 1) (va_cpy (M.1 (o1 + 1)) (M.1 (o + 1)) (ix 0) (ix 0) (ix 7))).1 (o1 + 2)) ((sA M (o + 1) (va_cpy (M.1 (o1 + 1)) (M.1 (o + 1)) (ix 0) (ix 0) (ix 7))).1 (o + 2)) (ix 0) (ix 0) (ix 7))).1 (o1 + 3)) ((sA (sA M (o + 1) (va_cpy (M.1 (o1 + 1)) (M.1 (o + 1)) (ix 0) (ix 0) (ix 7))) (o + 2) (va_cpy ((sA M (o + 1) (va_cpy (M.1 (o1 + 1)) (M.1 (o + 1)) (ix 0) (ix 0) (ix 7))).1 (o1 + 2)) ((sA M (o + 1) (va_cpy (M.1 (o1 + 1)) (M.1 (o + 1)) (ix 0) (ix 0) (ix 7))).1 (o + 2)) (ix 0) (ix 0) (ix 7))).1 (o + 3)) (ix 0) (ix 0) (ix 7))).1 (o1 + 4)) ((sA (sA (sA M (o + 1) (va_cpy (M.1 (o1 + 1)) (M.1 (o + 1)) (ix 0) (ix 0) (ix 7))) (o + 2) (va_cpy ((sA M (o + 1) (va_cpy (M.1 (o1 + 1)) (M.1 (o + 1)) (ix 0) (ix 0) (ix 7))).1 (o1 + 2)) ((sA M (o + 1) (va_cpy (M.1 (o1 + 1)) (M.1 (o + 1)) (ix 0) (ix 0) (ix 7))).1 (o + 2)) (ix 0) (ix 0) (ix 7))) (o + 3) (va_cpy ((sA (sA M (o + 1) (va_cpy (M.1 (o1 + 1)) (M.1 (o + 1)) (ix 0) (ix 0) (ix 7))) (o + 2) (va_cpy ((sA M (o + 1) (va_cpy (M.1 (o1 + 1)) (M.1 (o + 1)) (ix 0) (ix 0) (ix 7))).1 (o1 + 2)) ((sA M (o + 1) (va_cpy (M.1 (o1 + 1)) (M.1 (o + 1)) (ix 0) (ix 0) (ix 7))).1 (o + 2)) (ix 0) (ix 0) (ix 7))).1 (o1 + 3)) ((sA (sA M (o + 1) (va_cpy (M.1 (o1 + 1)) (M.1 (o + 1)) (ix 0) (ix 0) (ix 7))) (o + 2) (va_cpy ((sA M (o + 1) (va_cpy (M.1 (o1 + 1)) (M.1 (o + 1)) (ix 0) (ix 0) (ix 7))).1 (o1 + 2)) ((sA M (o + 1) (va_cpy (M.1 (o1 + 1)) (M.1 (o + 1)) (ix 0) (ix 0) (ix 7))).1 (o + 2)) (ix 0) (ix 0) (ix 7))).1 (o + 3)) (ix 0) (ix 0) (ix 7))).1 (o + 4)) (ix 0) (ix 0) (ix 7))) (o + 5) (va_cpy ((sA (sA (sA (sA M (o + 1) (va_cpy (M.1 (o1 + 1)) (M.1 (o + 1)) (ix 0) (ix 0) (ix 7))) (o + 2) (va_cpy ((sA M (o + 1) (va_cpy (M.1 (o1 + 1)) (M.1 (o + 1)) (ix 0) (ix 0) (ix 7))).1 (o1 + 2)) ((sA M (o + 1) (va_cpy (M.1 (o1 + 1)) (M.1 (o + 1)) (ix 0) (ix 0) (ix 7))).1 (o + 2)) (ix 0) (ix 0) (ix 7))) (o + 3) (va_cpy ((sA (sA M (o + 1) (va_cpy (M.1 (o1 + 1)) (M.1 (o + 1)) (ix 0) (ix 0) (ix 7))) (o + 2) (va_cpy ((sA M (o + 1) (va_cpy (M.1 (o1 + 1)) (M.1 (o + 1)) (ix 0) (ix 0) (ix 7))).1 (o1 + 2)) ((sA M (o + 1) (va_cpy (M.1 (o1 + 1)) (M.1 (o + 1)) (ix 0) (ix 0) (ix 7))).1 (o + 2)) (ix 0) (ix 0) (ix 7))).1 (o1 + 3)) ((sA (sA M (o + 1) (va_cpy (M.1 (o1 + 1)) (M.1 (o + 1)) (ix 0) (ix 0) (ix 7))) (o + 2) (va_cpy ((sA M (o + 1) (va_cpy (M.1 (o1 + 1)) (M.1 (o + 1)) (ix 0) (ix 0) (ix 7))).1 (o1 + 2)) ((sA M (o + 1) (va_cpy (M.1 (o1 + 1)) (M.1 (o + 1)) (ix 0) (ix 0) (ix 7))).1 (o + 2)) (ix 0) (ix 0) (ix 7))).1 (o + 3)) (ix 0) (ix 0) (ix 7))) (o + 4) (va_cpy ((sA (sA (sA M (o + 1) (va_cpy (M.1 (o1 + 1)) (M.1 (o + 1)) (ix 0) (ix 0) (ix 7))) (o + 2) (va_cpy ((sA M (o + 1) (va_cpy (M.1 (o1 + 1)) (M.1 (o + 1)) (ix 0) (ix 0) (ix 7))).1 (o1 + 2)) ((sA M (o + 1) (va_cpy (M.1 (o1 + 1)) (M.1 (o + 1)) (ix 0) (ix 0) (ix 7))).1 (o + 2)) (ix 0) (ix 0) (ix 7))) (o + 3) (va_cpy ((sA (sA M (o + 1) (va_cpy (M.1 (o1 + 1)) (M.1 (o + 1)) (ix 0) (ix 0) (ix 7))) (o + 2) (va_cpy ((sA M (o + 1) (va_cpy (M.1 (o1 + 1)) (M.1 (o + 1)) (ix 0) (ix 0) (ix 7))).1 (o1 + 2)) ((sA M (o + 1) (va_cpy (M.1 (o1 + 1)) (M.1 (o + 1)) (ix 0) (ix 0) (ix 7))).1 (o + 2)) (ix 0) (ix 0) (ix 7))).1 (o1 + 3)) ((sA (sA M (o + 1) (va_cpy (M.1 (o1 + 1)) (M.1 (o + 1)) (ix 0) (ix 0) (ix 7))) (o + 2) (va_cpy ((sA M (o + 1) (va_cpy (M.1 (o1 + 1)) (M.1 (o + 1)) (ix 0) (ix 0) (ix 7))).1 (o1 + 2)) ((sA M (o + 1) (va_cpy (M.1 (o1 + 1)) (M.1 (o + 1)) (ix 0) (ix 0) (ix 7))).1 (o + 2)) (ix 0) (ix 0) (ix 7))).1 (o + 3)) (ix 0) (ix 0) (ix 7))).1 (o1 + 4)) ((sA (sA (sA M (o + 1) (va_cpy (M.1 (o1 + 1)) (M.1 (o + 1)) (ix 0) (ix 0) (ix 7))) (o + 2) (va_cpy ((sA M (o + 1) (va_cpy (M.1 (o1 + 1)) (M.1 (o + 1)) (ix 0) (ix 0) (ix 7))).1 (o1 + 2)) ((sA M (o + 1) (va_cpy (M.1 (o1 + 1)) (M.1 (o + 1)) (ix 0) (ix 0) (ix 7))).1 (o + 2)) (ix 0) (ix 0) (ix 7))) (o + 3) (va_cpy ((sA (sA M (o + 1) (va_cpy (M.1 (o1 + 1)) (M.1 (o + 1)) (ix 0) (ix 0) (ix 7))) (o + 2) (va_cpy ((sA M (o + 1) (va_cpy (M.1 (o1 + 1)) (M.1 (o + 1)) (ix 0) (ix 0) (ix 7))).1 (o1 + 2)) ((sA M (o + 1) (va_cpy (M.1 (o1 + 1)) (M.1 (o + 1)) (ix 0) (ix 0) (ix 7))).1 (o + 2)) (ix 0) (ix 0) (ix 7))).1 (o1 + 3)) ((sA (sA M (o + 1) (va_cpy (M.1 (o1 + 1)) (M.1 (o + 1)) (ix 0) (ix 0) (ix 7))) (o + 2) (va_cpy ((sA M (o + 1) (va_cpy (M.1 (o1 + 1)) (M.1 (o + 1)) (ix 0) (ix 0) (ix 7))).1 (o1 + 2)) ((sA M (o + 1) (va_cpy (M.1 (o1 + 1)) (M.1 (o + 1)) (ix 0) (ix 0) (ix 7))).1 (o + 2)) (ix 0) (ix 0) (ix 7))).1 (o + 3)) (ix 0) (ix 0) (ix 7))).1 (o + 4)) (ix 0) (ix 0) (ix 7))).1 (o1 + 5)) ((sA (sA (sA (sA M (o + 1) (va_cpy (M.1 (o1 + 1)) (M.1 (o + 1)) (ix 0) (ix 0) (ix 7))) (o + 2) (va_cpy ((sA M (o + 1) (va_cpy (M.1 (o1 + 1)) (M.1 (o + 1)) (ix 0) (ix 0) (ix 7))).1 (o1 + 2)) ((sA M (o + 1) (va_cpy (M.1 (o1 + 1)) (M.1 (o + 1)) (ix 0) (ix 0) (ix 7))).1 (o + 2)) (ix 0) (ix 0) (ix 7))) (o + 3) (va_cpy ((sA (sA M (o + 1) (va_cpy (M.1 (o1 + 1)) (M.1 (o + 1)) (ix 0) (ix 0) (ix 7))) (o + 2) (va_cpy ((sA M (o + 1) (va_cpy (M.1 (o1 + 1)) (M.1 (o + 1)) (ix 0) (ix 0) (ix 7))).1 (o1 + 2)) ((sA M (o + 1) (va_cpy (M.1 (o1 + 1)) (M.1 (o + 1)) (ix 0) (ix 0) (ix 7))).1 (o + 2)) (ix 0) (ix 0) (ix 7))).1 (o1 + 3)) ((sA (sA M (o + 1) (va_cpy (M.1 (o1 + 1)) (M.1 (o + 1)) (ix 0) (ix 0) (ix 7))) (o + 2) (va_cpy ((sA M (o + 1) (va_cpy (M.1 (o1 + 1)) (M.1 (o + 1)) (ix 0) (ix 0) (ix 7))).1 (o1 + 2)) ((sA M (o + 1) (va_cpy (M.1 (o1 + 1)) (M.1 (o + 1)) (ix 0) (ix 0) (ix 7))).1 (o + 2)) (ix 0) (ix 0) (ix 7))).1 (o + 3)) (ix 0) (ix 0) (ix 7))) (o + 4) (va_cpy ((sA (sA (sA M (o + 1) (va_cpy (M.1 (o1 + 1)) (M.1 (o + 1)) (ix 0) (ix 0) (ix 7))) (o + 2) (va_cpy ((sA M (o + 1) (va_cpy (M.1 (o1 + 1)) (M.1 (o + 1)) (ix 0) (ix 0) (ix 7))).1 (o1 + 2)) ((sA M (o + 1) (va_cpy (M.1 (o1 + 1)) (M.1 (o + 1)) (ix 0) (ix 0) (ix 7))).1 (o + 2)) (ix 0) (ix 0) (ix 7))) (o + 3) (va_cpy ((sA (sA M (o + 1) (va_cpy (M.1 (o1 + 1)) (M.1 (o + 1)) (ix 0) (ix 0) (ix 7))) (o + 2) (va_cpy ((sA M (o + 1) (va_cpy (M.1 (o1 + 1)) (M.1 (o + 1)) (ix 0) (ix 0) (ix 7))).1 (o1 + 2)) ((sA M (o + 1) (va_cpy (M.1 (o1 + 1)) (M.1 (o + 1)) (ix 0) (ix 0) (ix 7))).1 (o + 2)) (ix 0) (ix 0) (ix 7))).1 (o1 + 3)) ((sA (sA M (o + 1) (va_cpy (M.1 (o1 + 1)) (M.1 (o + 1)) (ix 0) (ix 0) (ix 7))) (o + 2) (va_cpy ((sA M (o + 1) (va_cpy (M.1 (o1 + 1)) (M.1 (o + 1)) (ix 0) (ix 0) (ix 7))).1 (o1 + 2)) ((sA M (o + 1) (va_cpy (M.1 (o1 + 1)) (M.1 (o + 1)) (ix 0) (ix 0) (ix 7))).1 (o + 2)) (ix 0) (ix 0) (ix 7))).1 (o + 3)) (ix 0) (ix 0) (ix 7))).1 (o1 + 4)) ((sA (sA (sA M (o + 1) (va_cpy (M.1 (o1 + 1)) (M.1 (o + 1)) (ix 0) (ix 0) (ix 7))) (o + 2) (va_cpy ((sA M (o + 1) (va_cpy (M.1 (o1 + 1)) (M.1 (o + 1)) (ix 0) (ix 0) (ix 7))).1 (o1 + 2)) ((sA M (o + 1) (va_cpy (M.1 (o1 + 1)) (M.1 (o + 1)) (ix 0) (ix 0) (ix 7))).1 (o + 2)) (ix 0) (ix 0) (ix 7))) (o + 3) (va_cpy ((sA (sA M (o + 1) (va_cpy (M.1 (o1 + 1)) (M.1 (o + 1)) (ix 0) (ix 0) (ix 7))) (o + 2) (va_cpy ((sA M (o + 1) (va_cpy (M.1 (o1 + 1)) (M.1 (o + 1)) (ix 0) (ix 0) (ix 7))).1 (o1 + 2)) ((sA M (o + 1) (va_cpy (M.1 (o1 + 1)) (M.1 (o + 1)) (ix 0) (ix 0) (ix 7))).1 (o + 2)) (ix 0) (ix 0) (ix 7))).1 (o1 + 3)) ((sA (sA M (o + 1) (va_cpy (M.1 (o1 + 1)) (M.1 (o + 1)) (ix 0) (ix 0) (ix 7))) (o + 2) (va_cpy ((sA M (o + 1) (va_cpy (M.1 (o1 + 1)) (M.1 (o + 1)) (ix 0) (ix 0) (ix 7))).1 (o1 + 2)) ((sA M (o + 1) (va_cpy (M.1 (o1 + 1)) (M.1 (o + 1)) (ix 0) (ix 0) (ix 7))).1 (o + 2)) (ix 0) (ix 0) (ix 7))).1 (o + 3)) (ix 0) (ix 0) (ix 7))).1 (o + 4)) (ix 0) (ix 0) (ix 7))).1 (o + 5)) (ix 0) (ix 0) (ix 7))) o 6 ((sA (sA (sA (sA (sA M (o + 1) (va_cpy (M.1 (o1 + 1)) (M.1 (o + 1)) (ix 0) (ix 0) (ix 7))) (o + 2) (va_cpy ((sA M (o + 1) (va_cpy (M.1 (o1 + 1)) (M.1 (o + 1)) (ix 0) (ix 0) (ix 7))).1 (o1 + 2)) ((sA M (o + 1) (va_cpy (M.1 (o1 + 1)) (M.1 (o + 1)) (ix 0) (ix 0) (ix 7))).1 (o + 2)) (ix 0) (ix 0) (ix 7))) (o + 3) (va_cpy ((sA (sA M (o + 1) (va_cpy (M.1 (o1 + 1)) (M.1 (o + 1)) (ix 0) (ix 0) (ix 7))) (o + 2) (va_cpy ((sA M (o + 1) (va_cpy (M.1 (o1 + 1)) (M.1 (o + 1)) (ix 0) (ix 0) (ix 7))).1 (o1 + 2)) ((sA M (o + 1) (va_cpy (M.1 (o1 + 1)) (M.1 (o + 1)) (ix 0) (ix 0) (ix 7))).1 (o + 2)) (ix 0) (ix 0) (ix 7))).1 (o1 + 3)) ((sA (sA M (o + 1) (va_cpy (M.1 (o1 + 1)) (M.1 (o + 1)) (ix 0) (ix 0) (ix 7))) (o + 2) (va_cpy ((sA M (o + 1) (va_cpy (M.1 (o1 + 1)) (M.1 (o + 1)) (ix 0) (ix 0) (ix 7))).1 (o1 + 2)) ((sA M (o + 1) (va_cpy (M.1 (o1 + 1)) (M.1 (o + 1)) (ix 0) (ix 0) (ix 7))).1 (o + 2)) (ix 0) (ix 0) (ix 7))).1 (o + 3)) (ix 0) (ix 0) (ix 7))) (o + 4) (va_cpy ((sA (sA (sA M (o + 1) (va_cpy (M.1 (o1 + 1)) (M.1 (o + 1)) (ix 0) (ix 0) (ix 7))) (o + 2) (va_cpy ((sA M (o + 1) (va_cpy (M.1 (o1 + 1)) (M.1 (o + 1)) (ix 0) (ix 0) (ix 7))).1 (o1 + 2)) ((sA M (o + 1) (va_cpy (M.1 (o1 + 1)) (M.1 (o + 1)) (ix 0) (ix 0) (ix 7))).1 (o + 2)) (ix 0) (ix 0) (ix 7))) (o + 3) (va_cpy ((sA (sA M (o + 1) (va_cpy (M.1 (o1 + 1)) (M.1 (o + 1)) (ix 0) (ix 0) (ix 7))) (o + 2) (va_cpy ((sA M (o + 1) (va_cpy (M.1 (o1 + 1)) (M.1 (o + 1)) (ix 0) (ix 0) (ix 7))).1 (o1 + 2)) ((sA M (o + 1) (va_cpy (M.1 (o1 + 1)) (M.1 (o + 1)) (ix 0) (ix 0) (ix 7))).1 (o + 2)) (ix 0) (ix 0) (ix 7))).1 (o1 + 3)) ((sA (sA M (o + 1) (va_cpy (M.1 (o1 + 1)) (M.1 (o + 1)) (ix 0) (ix 0) (ix 7))) (o + 2) (va_cpy ((sA M (o + 1) (va_cpy (M.1 (o1 + 1)) (M.1 (o + 1)) (ix 0) (ix 0) (ix 7))).1 (o1 + 2)) ((sA M (o + 1) (va_cpy (M.1 (o1 + 1)) (M.1 (o + 1)) (ix 0) (ix 0) (ix 7))).1 (o + 2)) (ix 0) (ix 0) (ix 7))).1 (o + 3)) (ix 0) (ix 0) (ix 7))).1 (o1 + 4)) ((sA (sA (sA M (o + 1) (va_cpy (M.1 (o1 + 1)) (M.1 (o + 1)) (ix 0) (ix 0) (ix 7))) (o + 2) (va_cpy ((sA M (o + 1) (va_cpy (M.1 (o1 + 1)) (M.1 (o + 1)) (ix 0) (ix 0) (ix 7))).1 (o1 + 2)) ((sA M (o + 1) (va_cpy (M.1 (o1 + 1)) (M.1 (o + 1)) (ix 0) (ix 0) (ix 7))).1 (o + 2)) (ix 0) (ix 0) (ix 7))) (o + 3) (va_cpy ((sA (sA M (o + 1) (va_cpy (M.1 (o1 + 1)) (M.1 (o + 1)) (ix 0) (ix 0) (ix 7))) (o + 2) (va_cpy ((sA M (o + 1) (va_cpy (M.1 (o1 + 1)) (M.1 (o + 1)) (ix 0) (ix 0) (ix 7))).1 (o1 + 2)) ((sA M (o + 1) (va_cpy (M.1 (o1 + 1)) (M.1 (o + 1)) (ix 0) (ix 0) (ix 7))).1 (o + 2)) (ix 0) (ix 0) (ix 7))).1 (o1 + 3)) ((sA (sA M (o + 1) (va_cpy (M.1 (o1 + 1)) (M.1 (o + 1)) (ix 0) (ix 0) (ix 7))) (o + 2) (va_cpy ((sA M (o + 1) (va_cpy (M.1 (o1 + 1)) (M.1 (o + 1)) (ix 0) (ix 0) (ix 7))).1 (o1 + 2)) ((sA M (o + 1) (va_cpy (M.1 (o1 + 1)) (M.1 (o + 1)) (ix 0) (ix 0) (ix 7))).1 (o + 2)) (ix 0) (ix 0) (ix 7))).1 (o + 3)) (ix 0) (ix 0) (ix 7))).1 (o + 4)) (ix 0) (ix 0) (ix 7))) (o + 5) (va_cpy ((sA (sA (sA (sA M (o + 1) (va_cpy (M.1 (o1 + 1)) (M.1 (o + 1)) (ix 0) (ix 0) (ix 7))) (o + 2) (va_cpy ((sA M (o + 1) (va_cpy (M.1 (o1 + 1)) (M.1 (o + 1)) (ix 0) (ix 0) (ix 7))).1 (o1 + 2)) ((sA M (o + 1) (va_cpy (M.1 (o1 + 1)) (M.1 (o + 1)) (ix 0) (ix 0) (ix 7))).1 (o + 2)) (ix 0) (ix 0) (ix 7))) (o + 3) (va_cpy ((sA (sA M (o + 1) (va_cpy (M.1 (o1 + 1)) (M.1 (o + 1)) (ix 0) (ix 0) (ix 7))) (o + 2) (va_cpy ((sA M (o + 1) (va_cpy (M.1 (o1 + 1)) (M.1 (o + 1)) (ix 0) (ix 0) (ix 7))).1 (o1 + 2)) ((sA M (o + 1) (va_cpy (M.1 (o1 + 1)) (M.1 (o + 1)) (ix 0) (ix 0) (ix 7))).1 (o + 2)) (ix 0) (ix 0) (ix 7))).1 (o1 + 3)) ((sA (sA M (o + 1) (va_cpy (M.1 (o1 + 1)) (M.1 (o + 1)) (ix 0) (ix 0) (ix 7))) (o + 2) (va_cpy ((sA M (o + 1) (va_cpy (M.1 (o1 + 1)) (M.1 (o + 1)) (ix 0) (ix 0) (ix 7))).1 (o1 + 2)) ((sA M (o + 1) (va_cpy (M.1 (o1 + 1)) (M.1 (o + 1)) (ix 0) (ix 0) (ix 7))).1 (o + 2)) (ix 0) (ix 0) (ix 7))).1 (o + 3)) (ix 0) (ix 0) (ix 7))) (o + 4) (va_cpy ((sA (sA (sA M (o + 1) (va_cpy (M.1 (o1 + 1)) (M.1 (o + 1)) (ix 0) (ix 0) (ix 7))) (o + 2) (va_cpy ((sA M (o + 1) (va_cpy (M.1 (o1 + 1)) (M.1 (o + 1)) (ix 0) (ix 0) (ix 7))).1 (o1 + 2)) ((sA M (o + 1) (va_cpy (M.1 (o1 + 1)) (M.1 (o + 1)) (ix 0) (ix 0) (ix 7))).1 (o + 2)) (ix 0) (ix 0) (ix 7))) (o + 3) (va_cpy ((sA (sA M (o + 1) (va_cpy (M.1 (o1 + 1)) (M.1 (o + 1)) (ix 0) (ix 0) (ix 7))) (o + 2) (va_cpy ((sA M (o + 1) (va_cpy (M.1 (o1 + 1)) (M.1 (o + 1)) (ix 0) (ix 0) (ix 7))).1 (o1 + 2)) ((sA M (o + 1) (va_cpy (M.1 (o1 + 1)) (M.1 (o + 1)) (ix 0) (ix 0) (ix 7))).1 (o + 2)) (ix 0) (ix 0) (ix 7))).1 (o1 + 3)) ((sA (sA M (o + 1) (va_cpy (M.1 (o1 + 1)) (M.1 (o + 1)) (ix 0) (ix 0) (ix 7))) (o + 2) (va_cpy ((sA M (o + 1) (va_cpy (M.1 (o1 + 1)) (M.1 (o + 1)) (ix 0) (ix 0) (ix 7))).1 (o1 + 2)) ((sA M (o + 1) (va_cpy (M.1 (o1 + 1)) (M.1 (o + 1)) (ix 0) (ix 0) (ix 7))).1 (o + 2)) (ix 0) (ix 0) (ix 7))).1 (o + 3)) (ix 0) (ix 0) (ix 7))).1 (o1 + 4)) ((sA (sA (sA M (o + 1) (va_cpy (M.1 (o1 + 1)) (M.1 (o + 1)) (ix 0) (ix 0) (ix 7))) (o + 2) (va_cpy ((sA M (o + 1) (va_cpy (M.1 (o1 + 1)) (M.1 (o + 1)) (ix 0) (ix 0) (ix 7))).1 (o1 + 2)) ((sA M (o + 1) (va_cpy (M.1 (o1 + 1)) (M.1 (o + 1)) (ix 0) (ix 0) (ix 7))).1 (o + 2)) (ix 0) (ix 0) (ix 7))) (o + 3) (va_cpy ((sA (sA M (o + 1) (va_cpy (M.1 (o1 + 1)) (M.1 (o + 1)) (ix 0) (ix 0) (ix 7))) (o + 2) (va_cpy ((sA M (o + 1) (va_cpy (M.1 (o1 + 1)) (M.1 (o + 1)) (ix 0) (ix 0) (ix 7))).1 (o1 + 2)) ((sA M (o + 1) (va_cpy (M.1 (o1 + 1)) (M.1 (o + 1)) (ix 0) (ix 0) (ix 7))).1 (o + 2)) (ix 0) (ix 0) (ix 7))).1 (o1 + 3)) ((sA (sA M (o + 1) (va_cpy (M.1 (o1 + 1)) (M.1 (o + 1)) (ix 0) (ix 0) (ix 7))) (o + 2) (va_cpy ((sA M (o + 1) (va_cpy (M.1 (o1 + 1)) (M.1 (o + 1)) (ix 0) (ix 0) (ix 7))).1 (o1 + 2)) ((sA M (o + 1) (va_cpy (M.1 (o1 + 1)) (M.1 (o + 1)) (ix 0) (ix 0) (ix 7))).1 (o + 2)) (ix 0) (ix 0) (ix 7))).1 (o + 3)) (ix 0) (ix 0) (ix 7))).1 (o + 4)) (ix 0) (ix 0) (ix 7))).1 (o1 + 5)) ((sA (sA (sA (sA M (o + 1) (va_cpy (M.1 (o1 + 1)) (M.1 (o + 1)) (ix 0) (ix 0) (ix 7))) (o + 2) (va_cpy ((sA M (o + 1) (va_cpy (M.1 (o1 + 1)) (M.1 (o + 1)) (ix 0) (ix 0) (ix 7))).1 (o1 + 2)) ((sA M (o + 1) (va_cpy (M.1 (o1 + 1)) (M.1 (o + 1)) (ix 0) (ix 0) (ix 7))).1 (o + 2)) (ix 0) (ix 0) (ix 7))) (o + 3) (va_cpy ((sA (sA M (o + 1) (va_cpy (M.1 (o1 + 1)) (M.1 (o + 1)) (ix 0) (ix 0) (ix 7))) (o + 2) (va_cpy ((sA M (o + 1) (va_cpy (M.1 (o1 + 1)) (M.1 (o + 1)) (ix 0) (ix 0) (ix 7))).1 (o1 + 2)) ((sA M (o + 1) (va_cpy (M.1 (o1 + 1)) (M.1 (o + 1)) (ix 0) (ix 0) (ix 7))).1 (o + 2)) (ix 0) (ix 0) (ix 7))).1 (o1 + 3)) ((sA (sA M (o + 1) (va_cpy (M.1 (o1 + 1)) (M.1 (o + 1)) (ix 0) (ix 0) (ix 7))) (o + 2) (va_cpy ((sA M (o + 1) (va_cpy (M.1 (o1 + 1)) (M.1 (o + 1)) (ix 0) (ix 0) (ix 7))).1 (o1 + 2)) ((sA M (o + 1) (va_cpy (M.1 (o1 + 1)) (M.1 (o + 1)) (ix 0) (ix 0) (ix 7))).1 (o + 2)) (ix 0) (ix 0) (ix 7))).1 (o + 3)) (ix 0) (ix 0) (ix 7))) (o + 4) (va_cpy ((sA (sA (sA M (o + 1) (va_cpy (M.1 (o1 + 1)) (M.1 (o + 1)) (ix 0) (ix 0) (ix 7))) (o + 2) (va_cpy ((sA M (o + 1) (va_cpy (M.1 (o1 + 1)) (M.1 (o + 1)) (ix 0) (ix 0) (ix 7))).1 (o1 + 2)) ((sA M (o + 1) (va_cpy (M.1 (o1 + 1)) (M.1 (o + 1)) (ix 0) (ix 0) (ix 7))).1 (o + 2)) (ix 0) (ix 0) (ix 7))) (o + 3) (va_cpy ((sA (sA M (o + 1) (va_cpy (M.1 (o1 + 1)) (M.1 (o + 1)) (ix 0) (ix 0) (ix 7))) (o + 2) (va_cpy ((sA M (o + 1) (va_cpy (M.1 (o1 + 1)) (M.1 (o + 1)) (ix 0) (ix 0) (ix 7))).1 (o1 + 2)) ((sA M (o + 1) (va_cpy (M.1 (o1 + 1)) (M.1 (o + 1)) (ix 0) (ix 0) (ix 7))).1 (o + 2)) (ix 0) (ix 0) (ix 7))).1 (o1 + 3)) ((sA (sA M (o + 1) (va_cpy (M.1 (o1 + 1)) (M.1 (o + 1)) (ix 0) (ix 0) (ix 7))) (o + 2) (va_cpy ((sA M (o + 1) (va_cpy (M.1 (o1 + 1)) (M.1 (o + 1)) (ix 0) (ix 0) (ix 7))).1 (o1 + 2)) ((sA M (o + 1) (va_cpy (M.1 (o1 + 1)) (M.1 (o + 1)) (ix 0) (ix 0) (ix 7))).1 (o + 2)) (ix 0) (ix 0) (ix 7))).1 (o + 3)) (ix 0) (ix 0) (ix 7))).1 (o1 + 4)) ((sA (sA (sA M (o + 1) (va_cpy (M.1 (o1 + 1)) (M.1 (o + 1)) (ix 0) (ix 0) (ix 7))) (o + 2) (va_cpy ((sA M (o + 1) (va_cpy (M.1 (o1 + 1)) (M.1 (o + 1)) (ix 0) (ix 0) (ix 7))).1 (o1 + 2)) ((sA M (o + 1) (va_cpy (M.1 (o1 + 1)) (M.1 (o + 1)) (ix 0) (ix 0) (ix 7))).1 (o + 2)) (ix 0) (ix 0) (ix 7))) (o + 3) (va_cpy ((sA (sA M (o + 1) (va_cpy (M.1 (o1 + 1)) (M.1 (o + 1)) (ix 0) (ix 0) (ix 7))) (o + 2) (va_cpy ((sA M (o + 1) (va_cpy (M.1 (o1 + 1)) (M.1 (o + 1)) (ix 0) (ix 0) (ix 7))).1 (o1 + 2)) ((sA M (o + 1) (va_cpy (M.1 (o1 + 1)) (M.1 (o + 1)) (ix 0) (ix 0) (ix 7))).1 (o + 2)) (ix 0) (ix 0) (ix 7))).1 (o1 + 3)) ((sA (sA M (o + 1) (va_cpy (M.1 (o1 + 1)) (M.1 (o + 1)) (ix 0) (ix 0) (ix 7))) (o + 2) (va_cpy ((sA M (o + 1) (va_cpy (M.1 (o1 + 1)) (M.1 (o + 1)) (ix 0) (ix 0) (ix 7))).1 (o1 + 2)) ((sA M (o + 1) (va_cpy (M.1 (o1 + 1)) (M.1 (o + 1)) (ix 0) (ix 0) (ix 7))).1 (o + 2)) (ix 0) (ix 0) (ix 7))).1 (o + 3)) (ix 0) (ix 0) (ix 7))).1 (o + 4)) (ix 0) (ix 0) (ix 7))).1 (o + 5)) (ix 0) (ix 0) (ix 7))).1 o1 6)) o 7 ((sI (sA (sA (sA (sA (sA M (o + 1) (va_cpy (M.1 (o1 + 1)) (M.1 (o + 1)) (ix 0) (ix 0) (ix 7))) (o + 2) (va_cpy ((sA M (o + 1) (va_cpy (M.1 (o1 + 1)) (M.1 (o + 1)) (ix 0) (ix 0) (ix 7))).1 (o1 + 2)) ((sA M (o + 1) (va_cpy (M.1 (o1 + 1)) (M.1 (o + 1)) (ix 0) (ix 0) (ix 7))).1 (o + 2)) (ix 0) (ix 0) (ix 7))) (o + 3) (va_cpy ((sA (sA M (o + 1) (va_cpy (M.1 (o1 + 1)) (M.1 (o + 1)) (ix 0) (ix 0) (ix 7))) (o + 2) (va_cpy ((sA M (o + 1) (va_cpy (M.1 (o1 + 1)) (M.1 (o + 1)) (ix 0) (ix 0) (ix 7))).1 (o1 + 2)) ((sA M (o + 1) (va_cpy (M.1 (o1 + 1)) (M.1 (o + 1)) (ix 0) (ix 0) (ix 7))).1 (o + 2)) (ix 0) (ix 0) (ix 7))).1 (o1 + 3)) ((sA (sA M (o + 1) (va_cpy (M.1 (o1 + 1)) (M.1 (o + 1)) (ix 0) (ix 0) (ix 7))) (o + 2) (va_cpy ((sA M (o + 1) (va_cpy (M.1 (o1 + 1)) (M.1 (o + 1)) (ix 0) (ix 0) (ix 7))).1 (o1 + 2)) ((sA M (o + 1) (va_cpy (M.1 (o1 + 1)) (M.1 (o + 1)) (ix 0) (ix 0) (ix 7))).1 (o + 2)) (ix 0) (ix 0) (ix 7))).1 (o + 3)) (ix 0) (ix 0) (ix 7))) (o + 4) (va_cpy ((sA (sA (sA M (o + 1) (va_cpy (M.1 (o1 + 1)) (M.1 (o + 1)) (ix 0) (ix 0) (ix 7))) (o + 2) (va_cpy ((sA M (o + 1) (va_cpy (M.1 (o1 + 1)) (M.1 (o + 1)) (ix 0) (ix 0) (ix 7))).1 (o1 + 2)) ((sA M (o + 1) (va_cpy (M.1 (o1 + 1)) (M.1 (o + 1)) (ix 0) (ix 0) (ix 7))).1 (o + 2)) (ix 0) (ix 0) (ix 7))) (o + 3) (va_cpy ((sA (sA M (o + 1) (va_cpy (M.1 (o1 + 1)) (M.1 (o + 1)) (ix 0) (ix 0) (ix 7))) (o + 2) (va_cpy ((sA M (o + 1) (va_cpy (M.1 (o1 + 1)) (M.1 (o + 1)) (ix 0) (ix 0) (ix 7))).1 (o1 + 2)) ((sA M (o + 1) (va_cpy (M.1 (o1 + 1)) (M.1 (o + 1)) (ix 0) (ix 0) (ix 7))).1 (o + 2)) (ix 0) (ix 0) (ix 7))).1 (o1 + 3)) ((sA (sA M (o + 1) (va_cpy (M.1 (o1 + 1)) (M.1 (o + 1)) (ix 0) (ix 0) (ix 7))) (o + 2) (va_cpy ((sA M (o + 1) (va_cpy (M.1 (o1 + 1)) (M.1 (o + 1)) (ix 0) (ix 0) (ix 7))).1 (o1 + 2)) ((sA M (o + 1) (va_cpy (M.1 (o1 + 1)) (M.1 (o + 1)) (ix 0) (ix 0) (ix 7))).1 (o + 2)) (ix 0) (ix 0) (ix 7))).1 (o + 3)) (ix 0) (ix 0) (ix 7))).1 (o1 + 4)) ((sA (sA (sA M (o + 1) (va_cpy (M.1 (o1 + 1)) (M.1 (o + 1)) (ix 0) (ix 0) (ix 7))) (o + 2) (va_cpy ((sA M (o + 1) (va_cpy (M.1 (o1 + 1)) (M.1 (o + 1)) (ix 0) (ix 0) (ix 7))).1 (o1 + 2)) ((sA M (o + 1) (va_cpy (M.1 (o1 + 1)) (M.1 (o + 1)) (ix 0) (ix 0) (ix 7))).1 (o + 2)) (ix 0) (ix 0) (ix 7))) (o + 3) (va_cpy ((sA (sA M (o + 1) (va_cpy (M.1 (o1 + 1)) (M.1 (o + 1)) (ix 0) (ix 0) (ix 7))) (o + 2) (va_cpy ((sA M (o + 1) (va_cpy (M.1 (o1 + 1)) (M.1 (o + 1)) (ix 0) (ix 0) (ix 7))).1 (o1 + 2)) ((sA M (o + 1) (va_cpy (M.1 (o1 + 1)) (M.1 (o + 1)) (ix 0) (ix 0) (ix 7))).1 (o + 2)) (ix 0) (ix 0) (ix 7))).1 (o1 + 3)) ((sA (sA M (o + 1) (va_cpy (M.1 (o1 + 1)) (M.1 (o + 1)) (ix 0) (ix 0) (ix 7))) (o + 2) (va_cpy ((sA M (o + 1) (va_cpy (M.1 (o1 + 1)) (M.1 (o + 1)) (ix 0) (ix 0) (ix 7))).1 (o1 + 2)) ((sA M (o + 1) (va_cpy (M.1 (o1 + 1)) (M.1 (o + 1)) (ix 0) (ix 0) (ix 7))).1 (o + 2)) (ix 0) (ix 0) (ix 7))).1 (o + 3)) (ix 0) (ix 0) (ix 7))).1 (o + 4)) (ix 0) (ix 0) (ix 7))) (o + 5) (va_cpy ((sA (sA (sA (sA M (o + 1) (va_cpy (M.1 (o1 + 1)) (M.1 (o + 1)) (ix 0) (ix 0) (ix 7))) (o + 2) (va_cpy ((sA M (o + 1) (va_cpy (M.1 (o1 + 1)) (M.1 (o + 1)) (ix 0) (ix 0) (ix 7))).1 (o1 + 2)) ((sA M (o + 1) (va_cpy (M.1 (o1 + 1)) (M.1 (o + 1)) (ix 0) (ix 0) (ix 7))).1 (o + 2)) (ix 0) (ix 0) (ix 7))) (o + 3) (va_cpy ((sA (sA M (o + 1) (va_cpy (M.1 (o1 + 1)) (M.1 (o + 1)) (ix 0) (ix 0) (ix 7))) (o + 2) (va_cpy ((sA M (o + 1) (va_cpy (M.1 (o1 + 1)) (M.1 (o + 1)) (ix 0) (ix 0) (ix 7))).1 (o1 + 2)) ((sA M (o + 1) (va_cpy (M.1 (o1 + 1)) (M.1 (o + 1)) (ix 0) (ix 0) (ix 7))).1 (o + 2)) (ix 0) (ix 0) (ix 7))).1 (o1 + 3)) ((sA (sA M (o + 1) (va_cpy (M.1 (o1 + 1)) (M.1 (o + 1)) (ix 0) (ix 0) (ix 7))) (o + 2) (va_cpy ((sA M (o + 1) (va_cpy (M.1 (o1 + 1)) (M.1 (o + 1)) (ix 0) (ix 0) (ix 7))).1 (o1 + 2)) ((sA M (o + 1) (va_cpy (M.1 (o1 + 1)) (M.1 (o + 1)) (ix 0) (ix 0) (ix 7))).1 (o + 2)) (ix 0) (ix 0) (ix 7))).1 (o + 3)) (ix 0) (ix 0) (ix 7))) (o + 4) (va_cpy ((sA (sA (sA M (o + 1) (va_cpy (M.1 (o1 + 1)) (M.1 (o + 1)) (ix 0) (ix 0) (ix 7))) (o + 2) (va_cpy ((sA M (o + 1) (va_cpy (M.1 (o1 + 1)) (M.1 (o + 1)) (ix 0) (ix 0) (ix 7))).1 (o1 + 2)) ((sA M (o + 1) (va_cpy (M.1 (o1 + 1)) (M.1 (o + 1)) (ix 0) (ix 0) (ix 7))).1 (o + 2)) (ix 0) (ix 0) (ix 7))) (o + 3) (va_cpy ((sA (sA M (o + 1) (va_cpy (M.1 (o1 + 1)) (M.1 (o + 1)) (ix 0) (ix 0) (ix 7))) (o + 2) (va_cpy ((sA M (o + 1) (va_cpy (M.1 (o1 + 1)) (M.1 (o + 1)) (ix 0) (ix 0) (ix 7))).1 (o1 + 2)) ((sA M (o + 1) (va_cpy (M.1 (o1 + 1)) (M.1 (o + 1)) (ix 0) (ix 0) (ix 7))).1 (o + 2)) (ix 0) (ix 0) (ix 7))).1 (o1 + 3)) ((sA (sA M (o + 1) (va_cpy (M.1 (o1 + 1)) (M.1 (o + 1)) (ix 0) (ix 0) (ix 7))) (o + 2) (va_cpy ((sA M (o + 1) (va_cpy (M.1 (o1 + 1)) (M.1 (o + 1)) (ix 0) (ix 0) (ix 7))).1 (o1 + 2)) ((sA M (o + 1) (va_cpy (M.1 (o1 + 1)) (M.1 (o + 1)) (ix 0) (ix 0) (ix 7))).1 (o + 2)) (ix 0) (ix 0) (ix 7))).1 (o + 3)) (ix 0) (ix 0) (ix 7))).1 (o1 + 4)) ((sA (sA (sA M (o + 1) (va_cpy (M.1 (o1 + 1)) (M.1 (o + 1)) (ix 0) (ix 0) (ix 7))) (o + 2) (va_cpy ((sA M (o + 1) (va_cpy (M.1 (o1 + 1)) (M.1 (o + 1)) (ix 0) (ix 0) (ix 7))).1 (o1 + 2)) ((sA M (o + 1) (va_cpy (M.1 (o1 + 1)) (M.1 (o + 1)) (ix 0) (ix 0) (ix 7))).1 (o + 2)) (ix 0) (ix 0) (ix 7))) (o + 3) (va_cpy ((sA (sA M (o + 1) (va_cpy (M.1 (o1 + 1)) (M.1 (o + 1)) (ix 0) (ix 0) (ix 7))) (o + 2) (va_cpy ((sA M (o + 1) (va_cpy (M.1 (o1 + 1)) (M.1 (o + 1)) (ix 0) (ix 0) (ix 7))).1 (o1 + 2)) ((sA M (o + 1) (va_cpy (M.1 (o1 + 1)) (M.1 (o + 1)) (ix 0) (ix 0) (ix 7))).1 (o + 2)) (ix 0) (ix 0) (ix 7))).1 (o1 + 3)) ((sA (sA M (o + 1) (va_cpy (M.1 (o1 + 1)) (M.1 (o + 1)) (ix 0) (ix 0) (ix 7))) (o + 2) (va_cpy ((sA M (o + 1) (va_cpy (M.1 (o1 + 1)) (M.1 (o + 1)) (ix 0) (ix 0) (ix 7))).1 (o1 + 2)) ((sA M (o + 1) (va_cpy (M.1 (o1 + 1)) (M.1 (o + 1)) (ix 0) (ix 0) (ix 7))).1 (o + 2)) (ix 0) (ix 0) (ix 7))).1 (o + 3)) (ix 0) (ix 0) (ix 7))).1 (o + 4)) (ix 0) (ix 0) (ix 7))).1 (o1 + 5)) ((sA (sA (sA (sA M (o + 1) (va_cpy (M.1 (o1 + 1)) (M.1 (o + 1)) (ix 0) (ix 0) (ix 7))) (o + 2) (va_cpy ((sA M (o + 1) (va_cpy (M.1 (o1 + 1)) (M.1 (o + 1)) (ix 0) (ix 0) (ix 7))).1 (o1 + 2)) ((sA M (o + 1) (va_cpy (M.1 (o1 + 1)) (M.1 (o + 1)) (ix 0) (ix 0) (ix 7))).1 (o + 2)) (ix 0) (ix 0) (ix 7))) (o + 3) (va_cpy ((sA (sA M (o + 1) (va_cpy (M.1 (o1 + 1)) (M.1 (o + 1)) (ix 0) (ix 0) (ix 7))) (o + 2) (va_cpy ((sA M (o + 1) (va_cpy (M.1 (o1 + 1)) (M.1 (o + 1)) (ix 0) (ix 0) (ix 7))).1 (o1 + 2)) ((sA M (o + 1) (va_cpy (M.1 (o1 + 1)) (M.1 (o + 1)) (ix 0) (ix 0) (ix 7))).1 (o + 2)) (ix 0) (ix 0) (ix 7))).1 (o1 + 3)) ((sA (sA M (o + 1) (va_cpy (M.1 (o1 + 1)) (M.1 (o + 1)) (ix 0) (ix 0) (ix 7))) (o + 2) (va_cpy ((sA M (o + 1) (va_cpy (M.1 (o1 + 1)) (M.1 (o + 1)) (ix 0) (ix 0) (ix 7))).1 (o1 + 2)) ((sA M (o + 1) (va_cpy (M.1 (o1 + 1)) (M.1 (o + 1)) (ix 0) (ix 0) (ix 7))).1 (o + 2)) (ix 0) (ix 0) (ix 7))).1 (o + 3)) (ix 0) (ix 0) (ix 7))) (o + 4) (va_cpy ((sA (sA (sA M (o + 1) (va_cpy (M.1 (o1 + 1)) (M.1 (o + 1)) (ix 0) (ix 0) (ix 7))) (o + 2) (va_cpy ((sA M (o + 1) (va_cpy (M.1 (o1 + 1)) (M.1 (o + 1)) (ix 0) (ix 0) (ix 7))).1 (o1 + 2)) ((sA M (o + 1) (va_cpy (M.1 (o1 + 1)) (M.1 (o + 1)) (ix 0) (ix 0) (ix 7))).1 (o + 2)) (ix 0) (ix 0) (ix 7))) (o + 3) (va_cpy ((sA (sA M (o + 1) (va_cpy (M.1 (o1 + 1)) (M.1 (o + 1)) (ix 0) (ix 0) (ix 7))) (o + 2) (va_cpy ((sA M (o + 1) (va_cpy (M.1 (o1 + 1)) (M.1 (o + 1)) (ix 0) (ix 0) (ix 7))).1 (o1 + 2)) ((sA M (o + 1) (va_cpy (M.1 (o1 + 1)) (M.1 (o + 1)) (ix 0) (ix 0) (ix 7))).1 (o + 2)) (ix 0) (ix 0) (ix 7))).1 (o1 + 3)) ((sA (sA M (o + 1) (va_cpy (M.1 (o1 + 1)) (M.1 (o + 1)) (ix 0) (ix 0) (ix 7))) (o + 2) (va_cpy ((sA M (o + 1) (va_cpy (M.1 (o1 + 1)) (M.1 (o + 1)) (ix 0) (ix 0) (ix 7))).1 (o1 + 2)) ((sA M (o + 1) (va_cpy (M.1 (o1 + 1)) (M.1 (o + 1)) (ix 0) (ix 0) (ix 7))).1 (o + 2)) (ix 0) (ix 0) (ix 7))).1 (o + 3)) (ix 0) (ix 0) (ix 7))).1 (o1 + 4)) ((sA (sA (sA M (o + 1) (va_cpy (M.1 (o1 + 1)) (M.1 (o + 1)) (ix 0) (ix 0) (ix 7))) (o + 2) (va_cpy ((sA M (o + 1) (va_cpy (M.1 (o1 + 1)) (M.1 (o + 1)) (ix 0) (ix 0) (ix 7))).1 (o1 + 2)) ((sA M (o + 1) (va_cpy (M.1 (o1 + 1)) (M.1 (o + 1)) (ix 0) (ix 0) (ix 7))).1 (o + 2)) (ix 0) (ix 0) (ix 7))) (o + 3) (va_cpy ((sA (sA M (o + 1) (va_cpy (M.1 (o1 + 1)) (M.1 (o + 1)) (ix 0) (ix 0) (ix 7))) (o + 2) (va_cpy ((sA M (o + 1) (va_cpy (M.1 (o1 + 1)) (M.1 (o + 1)) (ix 0) (ix 0) (ix 7))).1 (o1 + 2)) ((sA M (o + 1) (va_cpy (M.1 (o1 + 1)) (M.1 (o + 1)) (ix 0) (ix 0) (ix 7))).1 (o + 2)) (ix 0) (ix 0) (ix 7))).1 (o1 + 3)) ((sA (sA M (o + 1) (va_cpy (M.1 (o1 + 1)) (M.1 (o + 1)) (ix 0) (ix 0) (ix 7))) (o + 2) (va_cpy ((sA M (o + 1) (va_cpy (M.1 (o1 + 1)) (M.1 (o + 1)) (ix 0) (ix 0) (ix 7))).1 (o1 + 2)) ((sA M (o + 1) (va_cpy (M.1 (o1 + 1)) (M.1 (o + 1)) (ix 0) (ix 0) (ix 7))).1 (o + 2)) (ix 0) (ix 0) (ix 7))).1 (o + 3)) (ix 0) (ix 0) (ix 7))).1 (o + 4)) (ix 0) (ix 0) (ix 7))).1 (o + 5)) (ix 0) (ix 0) (ix 7))) o 6 ((sA (sA (sA (sA (sA M (o + 1) (va_cpy (M.1 (o1 + 1)) (M.1 (o + 1)) (ix 0) (ix 0) (ix 7))) (o + 2) (va_cpy ((sA M (o + 1) (va_cpy (M.1 (o1 + 1)) (M.1 (o + 1)) (ix 0) (ix 0) (ix 7))).1 (o1 + 2)) ((sA M (o + 1) (va_cpy (M.1 (o1 + 1)) (M.1 (o + 1)) (ix 0) (ix 0) (ix 7))).1 (o + 2)) (ix 0) (ix 0) (ix 7))) (o + 3) (va_cpy ((sA (sA M (o + 1) (va_cpy (M.1 (o1 + 1)) (M.1 (o + 1)) (ix 0) (ix 0) (ix 7))) (o + 2) (va_cpy ((sA M (o + 1) (va_cpy (M.1 (o1 + 1)) (M.1 (o + 1)) (ix 0) (ix 0) (ix 7))).1 (o1 + 2)) ((sA M (o + 1) (va_cpy (M.1 (o1 + 1)) (M.1 (o + 1)) (ix 0) (ix 0) (ix 7))).1 (o + 2)) (ix 0) (ix 0) (ix 7))).1 (o1 + 3)) ((sA (sA M (o + 1) (va_cpy (M.1 (o1 + 1)) (M.1 (o + 1)) (ix 0) (ix 0) (ix 7))) (o + 2) (va_cpy ((sA M (o + 1) (va_cpy (M.1 (o1 + 1)) (M.1 (o + 1)) (ix 0) (ix 0) (ix 7))).1 (o1 + 2)) ((sA M (o + 1) (va_cpy (M.1 (o1 + 1)) (M.1 (o + 1)) (ix 0) (ix 0) (ix 7))).1 (o + 2)) (ix 0) (ix 0) (ix 7))).1 (o + 3)) (ix 0) (ix 0) (ix 7))) (o + 4) (va_cpy ((sA (sA (sA M (o + 1) (va_cpy (M.1 (o1 + 1)) (M.1 (o + 1)) (ix 0) (ix 0) (ix 7))) (o + 2) (va_cpy ((sA M (o + 1) (va_cpy (M.1 (o1 + 1)) (M.1 (o + 1)) (ix 0) (ix 0) (ix 7))).1 (o1 + 2)) ((sA M (o + 1) (va_cpy (M.1 (o1 + 1)) (M.1 (o + 1)) (ix 0) (ix 0) (ix 7))).1 (o + 2)) (ix 0) (ix 0) (ix 7))) (o + 3) (va_cpy ((sA (sA M (o + 1) (va_cpy (M.1 (o1 + 1)) (M.1 (o + 1)) (ix 0) (ix 0) (ix 7))) (o + 2) (va_cpy ((sA M (o + 1) (va_cpy (M.1 (o1 + 1)) (M.1 (o + 1)) (ix 0) (ix 0) (ix 7))).1 (o1 + 2)) ((sA M (o + 1) (va_cpy (M.1 (o1 + 1)) (M.1 (o + 1)) (ix 0) (ix 0) (ix 7))).1 (o + 2)) (ix 0) (ix 0) (ix 7))).1 (o1 + 3)) ((sA (sA M (o + 1) (va_cpy (M.1 (o1 + 1)) (M.1 (o + 1)) (ix 0) (ix 0) (ix 7))) (o + 2) (va_cpy ((sA M (o + 1) (va_cpy (M.1 (o1 + 1)) (M.1 (o + 1)) (ix 0) (ix 0) (ix 7))).1 (o1 + 2)) ((sA M (o + 1) (va_cpy (M.1 (o1 + 1)) (M.1 (o + 1)) (ix 0) (ix 0) (ix 7))).1 (o + 2)) (ix 0) (ix 0) (ix 7))).1 (o + 3)) (ix 0) (ix 0) (ix 7))).1 (o1 + 4)) ((sA (sA (sA M (o + 1) (va_cpy (M.1 (o1 + 1)) (M.1 (o + 1)) (ix 0) (ix 0) (ix 7))) (o + 2) (va_cpy ((sA M (o + 1) (va_cpy (M.1 (o1 + 1)) (M.1 (o + 1)) (ix 0) (ix 0) (ix 7))).1 (o1 + 2)) ((sA M (o + 1) (va_cpy (M.1 (o1 + 1)) (M.1 (o + 1)) (ix 0) (ix 0) (ix 7))).1 (o + 2)) (ix 0) (ix 0) (ix 7))) (o + 3) (va_cpy ((sA (sA M (o + 1) (va_cpy (M.1 (o1 + 1)) (M.1 (o + 1)) (ix 0) (ix 0) (ix 7))) (o + 2) (va_cpy ((sA M (o + 1) (va_cpy (M.1 (o1 + 1)) (M.1 (o + 1)) (ix 0) (ix 0) (ix 7))).1 (o1 + 2)) ((sA M (o + 1) (va_cpy (M.1 (o1 + 1)) (M.1 (o + 1)) (ix 0) (ix 0) (ix 7))).1 (o + 2)) (ix 0) (ix 0) (ix 7))).1 (o1 + 3)) ((sA (sA M (o + 1) (va_cpy (M.1 (o1 + 1)) (M.1 (o + 1)) (ix 0) (ix 0) (ix 7))) (o + 2) (va_cpy ((sA M (o + 1) (va_cpy (M.1 (o1 + 1)) (M.1 (o + 1)) (ix 0) (ix 0) (ix 7))).1 (o1 + 2)) ((sA M (o + 1) (va_cpy (M.1 (o1 + 1)) (M.1 (o + 1)) (ix 0) (ix 0) (ix 7))).1 (o + 2)) (ix 0) (ix 0) (ix 7))).1 (o + 3)) (ix 0) (ix 0) (ix 7))).1 (o + 4)) (ix 0) (ix 0) (ix 7))) (o + 5) (va_cpy ((sA (sA (sA (sA M (o + 1) (va_cpy (M.1 (o1 + 1)) (M.1 (o + 1)) (ix 0) (ix 0) (ix 7))) (o + 2) (va_cpy ((sA M (o + 1) (va_cpy (M.1 (o1 + 1)) (M.1 (o + 1)) (ix 0) (ix 0) (ix 7))).1 (o1 + 2)) ((sA M (o + 1) (va_cpy (M.1 (o1 + 1)) (M.1 (o + 1)) (ix 0) (ix 0) (ix 7))).1 (o + 2)) (ix 0) (ix 0) (ix 7))) (o + 3) (va_cpy ((sA (sA M (o + 1) (va_cpy (M.1 (o1 + 1)) (M.1 (o + 1)) (ix 0) (ix 0) (ix 7))) (o + 2) (va_cpy ((sA M (o + 1) (va_cpy (M.1 (o1 + 1)) (M.1 (o + 1)) (ix 0) (ix 0) (ix 7))).1 (o1 + 2)) ((sA M (o + 1) (va_cpy (M.1 (o1 + 1)) (M.1 (o + 1)) (ix 0) (ix 0) (ix 7))).1 (o + 2)) (ix 0) (ix 0) (ix 7))).1 (o1 + 3)) ((sA (sA M (o + 1) (va_cpy (M.1 (o1 + 1)) (M.1 (o + 1)) (ix 0) (ix 0) (ix 7))) (o + 2) (va_cpy ((sA M (o + 1) (va_cpy (M.1 (o1 + 1)) (M.1 (o + 1)) (ix 0) (ix 0) (ix 7))).1 (o1 + 2)) ((sA M (o + 1) (va_cpy (M.1 (o1 + 1)) (M.1 (o + 1)) (ix 0) (ix 0) (ix 7))).1 (o + 2)) (ix 0) (ix 0) (ix 7))).1 (o + 3)) (ix 0) (ix 0) (ix 7))) (o + 4) (va_cpy ((sA (sA (sA M (o + 1) (va_cpy (M.1 (o1 + 1)) (M.1 (o + 1)) (ix 0) (ix 0) (ix 7))) (o + 2) (va_cpy ((sA M (o + 1) (va_cpy (M.1 (o1 + 1)) (M.1 (o + 1)) (ix 0) (ix 0) (ix 7))).1 (o1 + 2)) ((sA M (o + 1) (va_cpy (M.1 (o1 + 1)) (M.1 (o + 1)) (ix 0) (ix 0) (ix 7))).1 (o + 2)) (ix 0) (ix 0) (ix 7))) (o + 3) (va_cpy ((sA (sA M (o + 1) (va_cpy (M.1 (o1 + 1)) (M.1 (o + 1)) (ix 0) (ix 0) (ix 7))) (o + 2) (va_cpy ((sA M (o + 1) (va_cpy (M.1 (o1 + 1)) (M.1 (o + 1)) (ix 0) (ix 0) (ix 7))).1 (o1 + 2)) ((sA M (o + 1) (va_cpy (M.1 (o1 + 1)) (M.1 (o + 1)) (ix 0) (ix 0) (ix 7))).1 (o + 2)) (ix 0) (ix 0) (ix 7))).1 (o1 + 3)) ((sA (sA M (o + 1) (va_cpy (M.1 (o1 + 1)) (M.1 (o + 1)) (ix 0) (ix 0) (ix 7))) (o + 2) (va_cpy ((sA M (o + 1) (va_cpy (M.1 (o1 + 1)) (M.1 (o + 1)) (ix 0) (ix 0) (ix 7))).1 (o1 + 2)) ((sA M (o + 1) (va_cpy (M.1 (o1 + 1)) (M.1 (o + 1)) (ix 0) (ix 0) (ix 7))).1 (o + 2)) (ix 0) (ix 0) (ix 7))).1 (o + 3)) (ix 0) (ix 0) (ix 7))).1 (o1 + 4)) ((sA (sA (sA M (o + 1) (va_cpy (M.1 (o1 + 1)) (M.1 (o + 1)) (ix 0) (ix 0) (ix 7))) (o + 2) (va_cpy ((sA M (o + 1) (va_cpy (M.1 (o1 + 1)) (M.1 (o + 1)) (ix 0) (ix 0) (ix 7))).1 (o1 + 2)) ((sA M (o + 1) (va_cpy (M.1 (o1 + 1)) (M.1 (o + 1)) (ix 0) (ix 0) (ix 7))).1 (o + 2)) (ix 0) (ix 0) (ix 7))) (o + 3) (va_cpy ((sA (sA M (o + 1) (va_cpy (M.1 (o1 + 1)) (M.1 (o + 1)) (ix 0) (ix 0) (ix 7))) (o + 2) (va_cpy ((sA M (o + 1) (va_cpy (M.1 (o1 + 1)) (M.1 (o + 1)) (ix 0) (ix 0) (ix 7))).1 (o1 + 2)) ((sA M (o + 1) (va_cpy (M.1 (o1 + 1)) (M.1 (o + 1)) (ix 0) (ix 0) (ix 7))).1 (o + 2)) (ix 0) (ix 0) (ix 7))).1 (o1 + 3)) ((sA (sA M (o + 1) (va_cpy (M.1 (o1 + 1)) (M.1 (o + 1)) (ix 0) (ix 0) (ix 7))) (o + 2) (va_cpy ((sA M (o + 1) (va_cpy (M.1 (o1 + 1)) (M.1 (o + 1)) (ix 0) (ix 0) (ix 7))).1 (o1 + 2)) ((sA M (o + 1) (va_cpy (M.1 (o1 + 1)) (M.1 (o + 1)) (ix 0) (ix 0) (ix 7))).1 (o + 2)) (ix 0) (ix 0) (ix 7))).1 (o + 3)) (ix 0) (ix 0) (ix 7))).1 (o + 4)) (ix 0) (ix 0) (ix 7))).1 (o1 + 5)) ((sA (sA (sA (sA M (o + 1) (va_cpy (M.1 (o1 + 1)) (M.1 (o + 1)) (ix 0) (ix 0) (ix 7))) (o + 2) (va_cpy ((sA M (o + 1) (va_cpy (M.1 (o1 + 1)) (M.1 (o + 1)) (ix 0) (ix 0) (ix 7))).1 (o1 + 2)) ((sA M (o + 1) (va_cpy (M.1 (o1 + 1)) (M.1 (o + 1)) (ix 0) (ix 0) (ix 7))).1 (o + 2)) (ix 0) (ix 0) (ix 7))) (o + 3) (va_cpy ((sA (sA M (o + 1) (va_cpy (M.1 (o1 + 1)) (M.1 (o + 1)) (ix 0) (ix 0) (ix 7))) (o + 2) (va_cpy ((sA M (o + 1) (va_cpy (M.1 (o1 + 1)) (M.1 (o + 1)) (ix 0) (ix 0) (ix 7))).1 (o1 + 2)) ((sA M (o + 1) (va_cpy (M.1 (o1 + 1)) (M.1 (o + 1)) (ix 0) (ix 0) (ix 7))).1 (o + 2)) (ix 0) (ix 0) (ix 7))).1 (o1 + 3)) ((sA (sA M (o + 1) (va_cpy (M.1 (o1 + 1)) (M.1 (o + 1)) (ix 0) (ix 0) (ix 7))) (o + 2) (va_cpy ((sA M (o + 1) (va_cpy (M.1 (o1 + 1)) (M.1 (o + 1)) (ix 0) (ix 0) (ix 7))).1 (o1 + 2)) ((sA M (o + 1) (va_cpy (M.1 (o1 + 1)) (M.1 (o + 1)) (ix 0) (ix 0) (ix 7))).1 (o + 2)) (ix 0) (ix 0) (ix 7))).1 (o + 3)) (ix 0) (ix 0) (ix 7))) (o + 4) (va_cpy ((sA (sA (sA M (o + 1) (va_cpy (M.1 (o1 + 1)) (M.1 (o + 1)) (ix 0) (ix 0) (ix 7))) (o + 2) (va_cpy ((sA M (o + 1) (va_cpy (M.1 (o1 + 1)) (M.1 (o + 1)) (ix 0) (ix 0) (ix 7))).1 (o1 + 2)) ((sA M (o + 1) (va_cpy (M.1 (o1 + 1)) (M.1 (o + 1)) (ix 0) (ix 0) (ix 7))).1 (o + 2)) (ix 0) (ix 0) (ix 7))) (o + 3) (va_cpy ((sA (sA M (o + 1) (va_cpy (M.1 (o1 + 1)) (M.1 (o + 1)) (ix 0) (ix 0) (ix 7))) (o + 2) (va_cpy ((sA M (o + 1) (va_cpy (M.1 (o1 + 1)) (M.1 (o + 1)) (ix 0) (ix 0) (ix 7))).1 (o1 + 2)) ((sA M (o + 1) (va_cpy (M.1 (o1 + 1)) (M.1 (o + 1)) (ix 0) (ix 0) (ix 7))).1 (o + 2)) (ix 0) (ix 0) (ix 7))).1 (o1 + 3)) ((sA (sA M (o + 1) (va_cpy (M.1 (o1 + 1)) (M.1 (o + 1)) (ix 0) (ix 0) (ix 7))) (o + 2) (va_cpy ((sA M (o + 1) (va_cpy (M.1 (o1 + 1)) (M.1 (o + 1)) (ix 0) (ix 0) (ix 7))).1 (o1 + 2)) ((sA M (o + 1) (va_cpy (M.1 (o1 + 1)) (M.1 (o + 1)) (ix 0) (ix 0) (ix 7))).1 (o + 2)) (ix 0) (ix 0) (ix 7))).1 (o + 3)) (ix 0) (ix 0) (ix 7))).1 (o1 + 4)) ((sA (sA (sA M (o + 1) (va_cpy (M.1 (o1 + 1)) (M.1 (o + 1)) (ix 0) (ix 0) (ix 7))) (o + 2) (va_cpy ((sA M (o + 1) (va_cpy (M.1 (o1 + 1)) (M.1 (o + 1)) (ix 0) (ix 0) (ix 7))).1 (o1 + 2)) ((sA M (o + 1) (va_cpy (M.1 (o1 + 1)) (M.1 (o + 1)) (ix 0) (ix 0) (ix 7))).1 (o + 2)) (ix 0) (ix 0) (ix 7))) (o + 3) (va_cpy ((sA (sA M (o + 1) (va_cpy (M.1 (o1 + 1)) (M.1 (o + 1)) (ix 0) (ix 0) (ix 7))) (o + 2) (va_cpy ((sA M (o + 1) (va_cpy (M.1 (o1 + 1)) (M.1 (o + 1)) (ix 0) (ix 0) (ix 7))).1 (o1 + 2)) ((sA M (o + 1) (va_cpy (M.1 (o1 + 1)) (M.1 (o + 1)) (ix 0) (ix 0) (ix 7))).1 (o + 2)) (ix 0) (ix 0) (ix 7))).1 (o1 + 3)) ((sA (sA M (o + 1) (va_cpy (M.1 (o1 + 1)) (M.1 (o + 1)) (ix 0) (ix 0) (ix 7))) (o + 2) (va_cpy ((sA M (o + 1) (va_cpy (M.1 (o1 + 1)) (M.1 (o + 1)) (ix 0) (ix 0) (ix 7))).1 (o1 + 2)) ((sA M (o + 1) (va_cpy (M.1 (o1 + 1)) (M.1 (o + 1)) (ix 0) (ix 0) (ix 7))).1 (o + 2)) (ix 0) (ix 0) (ix 7))).1 (o + 3)) (ix 0) (ix 0) (ix 7))).1 (o + 4)) (ix 0) (ix 0) (ix 7))).1 (o + 5)) (ix 0) (ix 0) (ix 7))).1 o1 6)).1 o1 7))))))))
set_option maxHeartbeats 4000000 in
set_option maxRecDepth 100000 in
theorem c_X0_takeFrom (l : Launch) (D : va_G) (cy : Nat → ClassId) (ad : Nat → Nat) {o : Nat} {o1 : Nat} (ho : isSt o) (ho1 : isSt o1)  {M M' : Mem} (hf : f_X0_takeFrom o o1 M = some M') : MetX l 43 (CC ad cy) D cy ad yX0_takeFrom cX0_takeFrom 2 none 1 [.ref (ad o), .ref (ad o1)] M (fun A => QV M' 43 (CC ad cy) D cy ad A) := by
  refine MetX.of (own := RX0) (by decide) rfl (Nat.le_of_ble_eq_true rfl) ?_
  intro p e s m below meth c A Q ls X hr hlk hZ hA hQ hW hl
  have hl : lv_has ls 2 [(0, .ref (ad o)), (1, .ref (ad o1))] := hl
  have hx := X.1
  have hb := X.2.1
  obtain ⟨H, hH⟩ : ∃ H, H = s.heap := ⟨_, rfl⟩
  obtain ⟨locs, hlo⟩ : ∃ q : List Loc, q = [] := ⟨_, rfl⟩
  have hW : Wd D 43 ad (CC ad cy) A s.heap M H locs := by rw [hH, hlo]; exact hW
  suffices hh : W p l e (rmD 1) s m ([.ref (ad o), .ref (ad o1)] : List Value).toArray below meth c H locs 0 0 Q (F0 m 0 ls []) by rw [hH, hlo] at hh; exact hh
  unfold f_X0_takeFrom at hf
  refine lv_aload_n hx hb dX0_takeFrom_0 rfl (lv_at hl 1 rfl) ?_
  refine gf_X0_9 ho1 X hW dX0_takeFrom_1 ?_
  refine lv_iconst (v := 0) hx hb dX0_takeFrom_4 (by decide) ?_
  refine lv_aload_n hx hb dX0_takeFrom_5 rfl (lv_at hl 0 rfl) ?_
  refine gf_X0_9 ho X hW dX0_takeFrom_6 ?_
  refine lv_iconst (v := 0) hx hb dX0_takeFrom_9 (by decide) ?_
  refine lv_bipush (v := 7) hx hb dX0_takeFrom_10 (by decide) ?_
  obtain ⟨hc12, hf⟩ := grd_some hf
  refine g_copy X hl.1 hW ql_X0_49 q_acn q_acs q_inSys (iA_st1 ho1) (iA_st1 ho) hc12 (by decide) (Nat.le_of_ble_eq_true rfl) dX0_takeFrom_12 (fun H locs hW => ?_)
  refine lv_aload_n hx hb dX0_takeFrom_15 rfl (lv_at hl 1 rfl) ?_
  refine gf_X0_15 ho1 X hW dX0_takeFrom_16 ?_
  refine lv_iconst (v := 0) hx hb dX0_takeFrom_19 (by decide) ?_
  refine lv_aload_n hx hb dX0_takeFrom_20 rfl (lv_at hl 0 rfl) ?_
  refine gf_X0_15 ho X hW dX0_takeFrom_21 ?_
  refine lv_iconst (v := 0) hx hb dX0_takeFrom_24 (by decide) ?_
  refine lv_bipush (v := 7) hx hb dX0_takeFrom_25 (by decide) ?_
  obtain ⟨hc27, hf⟩ := grd_some hf
  refine g_copy X hl.1 hW ql_X0_49 q_acn q_acs q_inSys (iA_st2 ho1) (iA_st2 ho) hc27 (by decide) (Nat.le_of_ble_eq_true rfl) dX0_takeFrom_27 (fun H locs hW => ?_)
  refine lv_aload_n hx hb dX0_takeFrom_30 rfl (lv_at hl 1 rfl) ?_
  refine gf_X0_18 ho1 X hW dX0_takeFrom_31 ?_
  refine lv_iconst (v := 0) hx hb dX0_takeFrom_34 (by decide) ?_
  refine lv_aload_n hx hb dX0_takeFrom_35 rfl (lv_at hl 0 rfl) ?_
  refine gf_X0_18 ho X hW dX0_takeFrom_36 ?_
  refine lv_iconst (v := 0) hx hb dX0_takeFrom_39 (by decide) ?_
  refine lv_bipush (v := 7) hx hb dX0_takeFrom_40 (by decide) ?_
  obtain ⟨hc42, hf⟩ := grd_some hf
  refine g_copy X hl.1 hW ql_X0_49 q_acn q_acs q_inSys (iA_st3 ho1) (iA_st3 ho) hc42 (by decide) (Nat.le_of_ble_eq_true rfl) dX0_takeFrom_42 (fun H locs hW => ?_)
  refine lv_aload_n hx hb dX0_takeFrom_45 rfl (lv_at hl 1 rfl) ?_
  refine gf_X0_21 ho1 X hW dX0_takeFrom_46 ?_
  refine lv_iconst (v := 0) hx hb dX0_takeFrom_49 (by decide) ?_
  refine lv_aload_n hx hb dX0_takeFrom_50 rfl (lv_at hl 0 rfl) ?_
  refine gf_X0_21 ho X hW dX0_takeFrom_51 ?_
  refine lv_iconst (v := 0) hx hb dX0_takeFrom_54 (by decide) ?_
  refine lv_bipush (v := 7) hx hb dX0_takeFrom_55 (by decide) ?_
  obtain ⟨hc57, hf⟩ := grd_some hf
  refine g_copy X hl.1 hW ql_X0_49 q_acn q_acs q_inSys (iA_st4 ho1) (iA_st4 ho) hc57 (by decide) (Nat.le_of_ble_eq_true rfl) dX0_takeFrom_57 (fun H locs hW => ?_)
  refine lv_aload_n hx hb dX0_takeFrom_60 rfl (lv_at hl 1 rfl) ?_
  refine gf_X0_24 ho1 X hW dX0_takeFrom_61 ?_
  refine lv_iconst (v := 0) hx hb dX0_takeFrom_64 (by decide) ?_
  refine lv_aload_n hx hb dX0_takeFrom_65 rfl (lv_at hl 0 rfl) ?_
  refine gf_X0_24 ho X hW dX0_takeFrom_66 ?_
  refine lv_iconst (v := 0) hx hb dX0_takeFrom_69 (by decide) ?_
  refine lv_bipush (v := 7) hx hb dX0_takeFrom_70 (by decide) ?_
  obtain ⟨hc72, hf⟩ := grd_some hf
  refine g_copy X hl.1 hW ql_X0_49 q_acn q_acs q_inSys (iA_st5 ho1) (iA_st5 ho) hc72 (by decide) (Nat.le_of_ble_eq_true rfl) dX0_takeFrom_72 (fun H locs hW => ?_)
  refine lv_aload_n hx hb dX0_takeFrom_75 rfl (lv_at hl 0 rfl) ?_
  refine lv_aload_n hx hb dX0_takeFrom_76 rfl (lv_at hl 1 rfl) ?_
  refine gf_X0_30 ho1 X hW dX0_takeFrom_77 ?_
  refine gp_X0_30 ho X hW dX0_takeFrom_80 (fun H locs hW => ?_)
  refine lv_aload_n hx hb dX0_takeFrom_83 rfl (lv_at hl 0 rfl) ?_
  refine lv_aload_n hx hb dX0_takeFrom_84 rfl (lv_at hl 1 rfl) ?_
  refine gf_X0_34 ho1 X hW dX0_takeFrom_85 ?_
  refine gp_X0_34 ho X hW dX0_takeFrom_88 (fun H locs hW => ?_)
  exact g_vret X hr hlk hQ hW dX0_takeFrom_91 hf

def f_X0_has (o : Nat) (v1 : Int32) (M : Mem) : Option Int32 :=
  (if v1 < 0 then (some 0) else (if (M.1 o 6) ≤ v1 then (some 0) else (some 1)))
set_option maxHeartbeats 4000000 in
set_option maxRecDepth 100000 in
theorem c_X0_has (l : Launch) (D : va_G) (cy : Nat → ClassId) (ad : Nat → Nat) {o : Nat} (ho : isSt o) {v1 : Int32} {M : Mem} {r : Int32} (hf : f_X0_has o v1 M = some r) : MetX l 43 (CC ad cy) D cy ad yX0_has cX0_has 2 (some .boolean) 0 [.ref (ad o), .int v1] M (fun A => QI r M 43 (CC ad cy) D cy ad A) := by
  refine MetX.of (own := RX0) (by decide) rfl (Nat.le_of_ble_eq_true rfl) ?_
  intro p e s m below meth c A Q ls X hr hlk hZ hA hQ hW hl
  have hl : lv_has ls 2 [(0, .ref (ad o)), (1, .int v1)] := hl
  have hx := X.1
  have hb := X.2.1
  obtain ⟨H, hH⟩ : ∃ H, H = s.heap := ⟨_, rfl⟩
  obtain ⟨locs, hlo⟩ : ∃ q : List Loc, q = [] := ⟨_, rfl⟩
  have hW : Wd D 43 ad (CC ad cy) A s.heap M H locs := by rw [hH, hlo]; exact hW
  suffices hh : W p l e (rmD 0) s m ([.ref (ad o), .int v1] : List Value).toArray below meth c H locs 0 0 Q (F0 m 0 ls []) by rw [hH, hlo] at hh; exact hh
  unfold f_X0_has at hf
  refine lv_iload_n hx hb dX0_has_0 rfl (lv_at hl 1 rfl) ?_
  refine lv_if_lt (tgt := 16) hx hb dX0_has_1 (by decide) (fun hc => ?_) (fun hc => ?_)
  · replace hf := ifp hc hf
    refine lv_iconst (v := 0) hx hb dX0_has_16 (by decide) ?_
    exact g_zret X hr hlk hQ hW dX0_has_17 (by decide) (rd_some hf)
  · replace hf := ifn hc hf
    refine lv_iload_n hx hb dX0_has_4 rfl (lv_at hl 1 rfl) ?_
    refine lv_aload_n hx hb dX0_has_5 rfl (lv_at hl 0 rfl) ?_
    refine gf_X0_30 ho X hW dX0_has_6 ?_
    refine lv_icmp_ge (tgt := 16) hx hb dX0_has_9 (by decide) (fun hc => ?_) (fun hc => ?_)
    · replace hf := ifp hc hf
      refine lv_iconst (v := 0) hx hb dX0_has_16 (by decide) ?_
      exact g_zret X hr hlk hQ hW dX0_has_17 (by decide) (rd_some hf)
    · replace hf := ifn hc hf
      refine lv_iconst (v := 1) hx hb dX0_has_12 (by decide) ?_
      refine lv_goto (tgt := 17) hx hb dX0_has_13 (by decide) ?_
      exact g_zret X hr hlk hQ hW dX0_has_17 (by decide) (rd_some hf)

def f_X0_isReady (o : Nat) (v1 : Int32) (M : Mem) : Option Int32 :=
  (grd (inb v1 7) (if (M.1 (o + 1) (ix v1)) = 3 then (if (irm (M.1 o 7) 2) = 0 then (some 1) else (some 0)) else (some 1)))
set_option maxHeartbeats 4000000 in
set_option maxRecDepth 100000 in
theorem c_X0_isReady (l : Launch) (D : va_G) (cy : Nat → ClassId) (ad : Nat → Nat) {o : Nat} (ho : isSt o) {v1 : Int32} {M : Mem} {r : Int32} (hf : f_X0_isReady o v1 M = some r) : MetX l 43 (CC ad cy) D cy ad yX0_isReady cX0_isReady 2 (some .boolean) 0 [.ref (ad o), .int v1] M (fun A => QI r M 43 (CC ad cy) D cy ad A) := by
  refine MetX.of (own := RX0) (by decide) rfl (Nat.le_of_ble_eq_true rfl) ?_
  intro p e s m below meth c A Q ls X hr hlk hZ hA hQ hW hl
  have hl : lv_has ls 2 [(0, .ref (ad o)), (1, .int v1)] := hl
  have hx := X.1
  have hb := X.2.1
  obtain ⟨H, hH⟩ : ∃ H, H = s.heap := ⟨_, rfl⟩
  obtain ⟨locs, hlo⟩ : ∃ q : List Loc, q = [] := ⟨_, rfl⟩
  have hW : Wd D 43 ad (CC ad cy) A s.heap M H locs := by rw [hH, hlo]; exact hW
  suffices hh : W p l e (rmD 0) s m ([.ref (ad o), .int v1] : List Value).toArray below meth c H locs 0 0 Q (F0 m 0 ls []) by rw [hH, hlo] at hh; exact hh
  unfold f_X0_isReady at hf
  refine lv_aload_n hx hb dX0_isReady_0 rfl (lv_at hl 0 rfl) ?_
  refine gf_X0_9 ho X hW dX0_isReady_1 ?_
  refine lv_iload_n hx hb dX0_isReady_4 rfl (lv_at hl 1 rfl) ?_
  obtain ⟨hi5, hf⟩ := grd_some hf
  refine g_iald X hW (iA_st1 ho) hi5 dX0_isReady_5 ?_
  refine lv_iconst (v := 3) hx hb dX0_isReady_6 (by decide) ?_
  refine lv_icmp_ne (tgt := 19) hx hb dX0_isReady_7 (by decide) (fun hc => ?_) (fun hc => ?_)
  · replace hf := ifn hc hf
    refine lv_iconst (v := 1) hx hb dX0_isReady_19 (by decide) ?_
    refine lv_goto (tgt := 24) hx hb dX0_isReady_20 (by decide) ?_
    exact g_zret X hr hlk hQ hW dX0_isReady_24 (by decide) (rd_some hf)
  · replace hf := ifp hc hf
    refine lv_aload_n hx hb dX0_isReady_10 rfl (lv_at hl 0 rfl) ?_
    refine gf_X0_34 ho X hW dX0_isReady_11 ?_
    refine lv_iconst (v := 2) hx hb dX0_isReady_14 (by decide) ?_
    refine r_irem hx hb dX0_isReady_15 (by decide) ?_
    refine lv_if_ne (tgt := 23) hx hb dX0_isReady_16 (by decide) (fun hc => ?_) (fun hc => ?_)
    · replace hf := ifn hc hf
      refine lv_iconst (v := 0) hx hb dX0_isReady_23 (by decide) ?_
      exact g_zret X hr hlk hQ hW dX0_isReady_24 (by decide) (rd_some hf)
    · replace hf := ifp hc hf
      refine lv_iconst (v := 1) hx hb dX0_isReady_19 (by decide) ?_
      refine lv_goto (tgt := 24) hx hb dX0_isReady_20 (by decide) ?_
      exact g_zret X hr hlk hQ hW dX0_isReady_24 (by decide) (rd_some hf)

def f_X0_comesOut (o : Nat) (v1 : Int32) (M : Mem) : Option Int32 :=
  (bR (f_X0_isReady o v1 M) (fun r2 => (if r2 = 0 then (some 0) else (grd (inb v1 7) (some ((M.1 (o + 4) (ix v1)) &&& 1))))))
set_option maxHeartbeats 4000000 in
set_option maxRecDepth 100000 in
theorem c_X0_comesOut (l : Launch) (D : va_G) (cy : Nat → ClassId) (ad : Nat → Nat) {o : Nat} (ho : isSt o) {v1 : Int32} {M : Mem} {r : Int32} (hf : f_X0_comesOut o v1 M = some r) : MetX l 43 (CC ad cy) D cy ad yX0_comesOut cX0_comesOut 2 (some .int) 1 [.ref (ad o), .int v1] M (fun A => QI r M 43 (CC ad cy) D cy ad A) := by
  refine MetX.of (own := RX0) (by decide) rfl (Nat.le_of_ble_eq_true rfl) ?_
  intro p e s m below meth c A Q ls X hr hlk hZ hA hQ hW hl
  have hl : lv_has ls 2 [(0, .ref (ad o)), (1, .int v1)] := hl
  have hx := X.1
  have hb := X.2.1
  obtain ⟨H, hH⟩ : ∃ H, H = s.heap := ⟨_, rfl⟩
  obtain ⟨locs, hlo⟩ : ∃ q : List Loc, q = [] := ⟨_, rfl⟩
  have hW : Wd D 43 ad (CC ad cy) A s.heap M H locs := by rw [hH, hlo]; exact hW
  suffices hh : W p l e (rmD 1) s m ([.ref (ad o), .int v1] : List Value).toArray below meth c H locs 0 0 Q (F0 m 0 ls []) by rw [hH, hlo] at hh; exact hh
  unfold f_X0_comesOut at hf
  refine lv_aload_n hx hb dX0_comesOut_0 rfl (lv_at hl 0 rfl) ?_
  refine lv_iload_n hx hb dX0_comesOut_1 rfl (lv_at hl 1 rfl) ?_
  obtain ⟨r2, h2, hf⟩ := bR_some hf
  refine g_calliV X hl.1 hZ hA hW (c_X0_isReady l D cy ad ho h2) cw_X0_isReady ql_X0_65 (iO_st ho) rfl (by decide) rfl (Nat.le_of_ble_eq_true rfl) dX0_comesOut_2 (fun H locs hW => ?_)
  refine lv_if_eq (tgt := 19) hx hb dX0_comesOut_5 (by decide) (fun hc => ?_) (fun hc => ?_)
  · replace hf := ifp hc hf
    refine lv_iconst (v := 0) hx hb dX0_comesOut_19 (by decide) ?_
    exact g_iret X hr hlk hQ hW dX0_comesOut_20 (rd_some hf)
  · replace hf := ifn hc hf
    refine lv_aload_n hx hb dX0_comesOut_8 rfl (lv_at hl 0 rfl) ?_
    refine gf_X0_21 ho X hW dX0_comesOut_9 ?_
    refine lv_iload_n hx hb dX0_comesOut_12 rfl (lv_at hl 1 rfl) ?_
    obtain ⟨hi13, hf⟩ := grd_some hf
    refine g_iald X hW (iA_st4 ho) hi13 dX0_comesOut_13 ?_
    refine lv_iconst (v := 1) hx hb dX0_comesOut_14 (by decide) ?_
    refine lv_iand hx hb dX0_comesOut_15 ?_
    refine lv_goto (tgt := 20) hx hb dX0_comesOut_16 (by decide) ?_
    exact g_iret X hr hlk hQ hW dX0_comesOut_20 (rd_some hf)

def f_X0_cameTo_L2 (o : Nat) (v1_L2 : Int32) (M : Mem) (k20 : Int32 → Option Int32) : Nat → Int32 → Option Int32
  | 0, _ => none
  | n + 1, v2_L2 => (if (M.1 o 6) ≤ v2_L2 then (some 0) else (grd (inb v2_L2 7) (if (M.1 (o + 5) (ix v2_L2)) = v1_L2 then (k20 v2_L2) else (f_X0_cameTo_L2 o v1_L2 M k20 n (v2_L2 + 1)))))
def f_X0_cameTo (o : Nat) (v1 : Int32) (M : Mem) : Option Int32 :=
  (jn (fun (k20 : Int32 → Option Int32) => (f_X0_cameTo_L2 o v1 M k20 FU 0)) (fun (v2_20x : Int32) => (bR (f_X0_comesOut o v2_20x M) (fun r22 => (some r22)))))
set_option maxHeartbeats 4000000 in
set_option maxRecDepth 100000 in
theorem c_X0_cameTo (l : Launch) (D : va_G) (cy : Nat → ClassId) (ad : Nat → Nat) {o : Nat} (ho : isSt o) {v1 : Int32} {M : Mem} {r : Int32} (hf : f_X0_cameTo o v1 M = some r) : MetX l 43 (CC ad cy) D cy ad yX0_cameTo cX0_cameTo 3 (some .int) 2 [.ref (ad o), .int v1] M (fun A => QI r M 43 (CC ad cy) D cy ad A) := by
  refine MetX.of (own := RX0) (by decide) rfl (Nat.le_of_ble_eq_true rfl) ?_
  intro p e s m below meth c A Q ls X hr hlk hZ hA hQ hW hl
  have hl : lv_has ls 3 [(0, .ref (ad o)), (1, .int v1)] := hl
  have hx := X.1
  have hb := X.2.1
  have hL2 : ∀ (v1_L2 : Int32) (k20 : Int32 → Option Int32) (hJ20 : ∀ (v2_20x : Int32) (H : Heap) (locs : List Loc) (ls : Array Slot), k20 v2_20x = some r → Wd D 43 ad (CC ad cy) A s.heap M H locs → lv_has ls 3 [(0, .ref (ad o)), (2, .int v2_20x)] → W p l e (rmD 2) s m ([.ref (ad o), .int v1] : List Value).toArray below meth c H locs 0 0 Q (F0 m 20 ls [])) (n : Nat) (v2_L2 : Int32) (H : Heap) (locs : List Loc) (ls : Array Slot), f_X0_cameTo_L2 o v1_L2 M k20 n v2_L2 = some r → Wd D 43 ad (CC ad cy) A s.heap M H locs → lv_has ls 3 [(0, .ref (ad o)), (1, .int v1_L2), (2, .int v2_L2)] → W p l e (rmD 2) s m ([.ref (ad o), .int v1] : List Value).toArray below meth c H locs 0 0 Q (F0 m 2 ls []) := by
    intro v1_L2 k20 hJ20 n
    induction n with
    | zero =>
      intro v2_L2 H locs ls hf
      cases (show (none : Option Int32) = some r from hf)
    | succ n ih =>
      intro v2_L2 H locs ls hf hW hl
      rw [f_X0_cameTo_L2] at hf
      refine lv_iload_n hx hb dX0_cameTo_2 rfl (lv_at hl 2 rfl) ?_
      refine lv_aload_n hx hb dX0_cameTo_3 rfl (lv_at hl 0 rfl) ?_
      refine gf_X0_30 ho X hW dX0_cameTo_4 ?_
      refine lv_icmp_ge (tgt := 32) hx hb dX0_cameTo_7 (by decide) (fun hc => ?_) (fun hc => ?_)
      · replace hf := ifp hc hf
        refine lv_iconst (v := 0) hx hb dX0_cameTo_32 (by decide) ?_
        exact g_iret X hr hlk hQ hW dX0_cameTo_33 (rd_some hf)
      · replace hf := ifn hc hf
        refine lv_aload_n hx hb dX0_cameTo_10 rfl (lv_at hl 0 rfl) ?_
        refine gf_X0_24 ho X hW dX0_cameTo_11 ?_
        refine lv_iload_n hx hb dX0_cameTo_14 rfl (lv_at hl 2 rfl) ?_
        obtain ⟨hi15, hf⟩ := grd_some hf
        refine g_iald X hW (iA_st5 ho) hi15 dX0_cameTo_15 ?_
        refine lv_iload_n hx hb dX0_cameTo_16 rfl (lv_at hl 1 rfl) ?_
        refine lv_icmp_ne (tgt := 26) hx hb dX0_cameTo_17 (by decide) (fun hc => ?_) (fun hc => ?_)
        · replace hf := ifn hc hf
          refine lv_iinc (v := (v2_L2 + 1)) (lv' := [(2, .int (v2_L2 + 1)), (0, .ref (ad o)), (1, .int v1_L2)]) hx hb dX0_cameTo_26 hl (k := 2) rfl rfl (by decide) rfl (fun ls hl => ?_)
          refine lv_goto (tgt := 2) hx hb dX0_cameTo_29 (by decide) ?_
          exact ih (v2_L2 + 1) H locs ls hf hW (lv_sub hl [1, 2, 0] rfl)
        · replace hf := ifp hc hf
          exact hJ20 v2_L2 H locs ls hf hW (lv_sub hl [0, 2] rfl)
  obtain ⟨H, hH⟩ : ∃ H, H = s.heap := ⟨_, rfl⟩
  obtain ⟨locs, hlo⟩ : ∃ q : List Loc, q = [] := ⟨_, rfl⟩
  have hW : Wd D 43 ad (CC ad cy) A s.heap M H locs := by rw [hH, hlo]; exact hW
  suffices hh : W p l e (rmD 2) s m ([.ref (ad o), .int v1] : List Value).toArray below meth c H locs 0 0 Q (F0 m 0 ls []) by rw [hH, hlo] at hh; exact hh
  unfold f_X0_cameTo at hf
  refine lv_iconst (v := 0) hx hb dX0_cameTo_0 (by decide) ?_
  refine lv_istore_n (lv' := [(2, .int 0), (0, .ref (ad o)), (1, .int v1)]) hx hb dX0_cameTo_1 rfl hl (by decide) rfl (fun ls hl => ?_)
  obtain ⟨k20, hk20, hf⟩ := jn_some1 hf
  have hJ20 : ∀ (v2_20x : Int32) (H : Heap) (locs : List Loc) (ls : Array Slot), k20 v2_20x = some r → Wd D 43 ad (CC ad cy) A s.heap M H locs → lv_has ls 3 [(0, .ref (ad o)), (2, .int v2_20x)] → W p l e (rmD 2) s m ([.ref (ad o), .int v1] : List Value).toArray below meth c H locs 0 0 Q (F0 m 20 ls []) := by
    intro v2_20x H locs ls hf hW hl
    rw [hk20] at hf
    refine lv_aload_n hx hb dX0_cameTo_20 rfl (lv_at hl 0 rfl) ?_
    refine lv_iload_n hx hb dX0_cameTo_21 rfl (lv_at hl 1 rfl) ?_
    obtain ⟨r22, h22, hf⟩ := bR_some hf
    refine g_calliV X hl.1 hZ hA hW (c_X0_comesOut l D cy ad ho h22) cw_X0_comesOut ql_X0_62 (iO_st ho) rfl (by decide) rfl (Nat.le_of_ble_eq_true rfl) dX0_cameTo_22 (fun H locs hW => ?_)
    exact g_iret X hr hlk hQ hW dX0_cameTo_25 (rd_some hf)
  exact hL2 v1 k20 hJ20 FU 0 H locs ls hf hW (lv_sub hl [1, 2, 0] rfl)

def f_X0_ticksTillStruck (o : Nat) (v1 : Int32) (M : Mem) : Option Int32 :=
  (grd (inb v1 7) (if ((M.1 (o + 3) (ix v1)) + 2) ≤ 0 then (some 0) else (grd (nz ((M.1 (o + 3) (ix v1)) + 2)) (grd (nz ((M.1 (o + 3) (ix v1)) + 2)) (some (irm (((M.1 (o + 3) (ix v1)) + 2) - (irm (M.1 o 7) ((M.1 (o + 3) (ix v1)) + 2))) ((M.1 (o + 3) (ix v1)) + 2)))))))
set_option maxHeartbeats 4000000 in
set_option maxRecDepth 100000 in
theorem c_X0_ticksTillStruck (l : Launch) (D : va_G) (cy : Nat → ClassId) (ad : Nat → Nat) {o : Nat} (ho : isSt o) {v1 : Int32} {M : Mem} {r : Int32} (hf : f_X0_ticksTillStruck o v1 M = some r) : MetX l 43 (CC ad cy) D cy ad yX0_ticksTillStruck cX0_ticksTillStruck 3 (some .int) 0 [.ref (ad o), .int v1] M (fun A => QI r M 43 (CC ad cy) D cy ad A) := by
  refine MetX.of (own := RX0) (by decide) rfl (Nat.le_of_ble_eq_true rfl) ?_
  intro p e s m below meth c A Q ls X hr hlk hZ hA hQ hW hl
  have hl : lv_has ls 3 [(0, .ref (ad o)), (1, .int v1)] := hl
  have hx := X.1
  have hb := X.2.1
  obtain ⟨H, hH⟩ : ∃ H, H = s.heap := ⟨_, rfl⟩
  obtain ⟨locs, hlo⟩ : ∃ q : List Loc, q = [] := ⟨_, rfl⟩
  have hW : Wd D 43 ad (CC ad cy) A s.heap M H locs := by rw [hH, hlo]; exact hW
  suffices hh : W p l e (rmD 0) s m ([.ref (ad o), .int v1] : List Value).toArray below meth c H locs 0 0 Q (F0 m 0 ls []) by rw [hH, hlo] at hh; exact hh
  unfold f_X0_ticksTillStruck at hf
  refine lv_aload_n hx hb dX0_ticksTillStruck_0 rfl (lv_at hl 0 rfl) ?_
  refine gf_X0_18 ho X hW dX0_ticksTillStruck_1 ?_
  refine lv_iload_n hx hb dX0_ticksTillStruck_4 rfl (lv_at hl 1 rfl) ?_
  obtain ⟨hi5, hf⟩ := grd_some hf
  refine g_iald X hW (iA_st3 ho) hi5 dX0_ticksTillStruck_5 ?_
  refine lv_iconst (v := 2) hx hb dX0_ticksTillStruck_6 (by decide) ?_
  refine lv_iadd hx hb dX0_ticksTillStruck_7 ?_
  refine lv_istore_n (lv' := [(2, .int ((M.1 (o + 3) (ix v1)) + 2)), (0, .ref (ad o)), (1, .int v1)]) hx hb dX0_ticksTillStruck_8 rfl hl (by decide) rfl (fun ls hl => ?_)
  refine lv_iload_n hx hb dX0_ticksTillStruck_9 rfl (lv_at hl 0 rfl) ?_
  refine lv_if_le (tgt := 26) hx hb dX0_ticksTillStruck_10 (by decide) (fun hc => ?_) (fun hc => ?_)
  · replace hf := ifp hc hf
    refine lv_iconst (v := 0) hx hb dX0_ticksTillStruck_26 (by decide) ?_
    exact g_iret X hr hlk hQ hW dX0_ticksTillStruck_27 (rd_some hf)
  · replace hf := ifn hc hf
    refine lv_iload_n hx hb dX0_ticksTillStruck_13 rfl (lv_at hl 0 rfl) ?_
    refine lv_aload_n hx hb dX0_ticksTillStruck_14 rfl (lv_at hl 1 rfl) ?_
    refine gf_X0_34 ho X hW dX0_ticksTillStruck_15 ?_
    refine lv_iload_n hx hb dX0_ticksTillStruck_18 rfl (lv_at hl 0 rfl) ?_
    obtain ⟨hz19, hf⟩ := grd_some hf
    refine r_irem hx hb dX0_ticksTillStruck_19 (nz_ne hz19) ?_
    refine lv_isub hx hb dX0_ticksTillStruck_20 ?_
    refine lv_iload_n hx hb dX0_ticksTillStruck_21 rfl (lv_at hl 0 rfl) ?_
    obtain ⟨hz22, hf⟩ := grd_some hf
    refine r_irem hx hb dX0_ticksTillStruck_22 (nz_ne hz22) ?_
    refine lv_goto (tgt := 27) hx hb dX0_ticksTillStruck_23 (by decide) ?_
    exact g_iret X hr hlk hQ hW dX0_ticksTillStruck_27 (rd_some hf)

def f_X0_isStruck (o : Nat) (v1 : Int32) (M : Mem) : Option Int32 :=
  (bR (f_X0_ticksTillStruck o v1 M) (fun r2 => (if r2 = 0 then (some 1) else (some 0))))
set_option maxHeartbeats 4000000 in
set_option maxRecDepth 100000 in
theorem c_X0_isStruck (l : Launch) (D : va_G) (cy : Nat → ClassId) (ad : Nat → Nat) {o : Nat} (ho : isSt o) {v1 : Int32} {M : Mem} {r : Int32} (hf : f_X0_isStruck o v1 M = some r) : MetX l 43 (CC ad cy) D cy ad yX0_isStruck cX0_isStruck 2 (some .boolean) 1 [.ref (ad o), .int v1] M (fun A => QI r M 43 (CC ad cy) D cy ad A) := by
  refine MetX.of (own := RX0) (by decide) rfl (Nat.le_of_ble_eq_true rfl) ?_
  intro p e s m below meth c A Q ls X hr hlk hZ hA hQ hW hl
  have hl : lv_has ls 2 [(0, .ref (ad o)), (1, .int v1)] := hl
  have hx := X.1
  have hb := X.2.1
  obtain ⟨H, hH⟩ : ∃ H, H = s.heap := ⟨_, rfl⟩
  obtain ⟨locs, hlo⟩ : ∃ q : List Loc, q = [] := ⟨_, rfl⟩
  have hW : Wd D 43 ad (CC ad cy) A s.heap M H locs := by rw [hH, hlo]; exact hW
  suffices hh : W p l e (rmD 1) s m ([.ref (ad o), .int v1] : List Value).toArray below meth c H locs 0 0 Q (F0 m 0 ls []) by rw [hH, hlo] at hh; exact hh
  unfold f_X0_isStruck at hf
  refine lv_aload_n hx hb dX0_isStruck_0 rfl (lv_at hl 0 rfl) ?_
  refine lv_iload_n hx hb dX0_isStruck_1 rfl (lv_at hl 1 rfl) ?_
  obtain ⟨r2, h2, hf⟩ := bR_some hf
  refine g_calliV X hl.1 hZ hA hW (c_X0_ticksTillStruck l D cy ad ho h2) cw_X0_ticksTillStruck ql_X0_72 (iO_st ho) rfl (by decide) rfl (Nat.le_of_ble_eq_true rfl) dX0_isStruck_2 (fun H locs hW => ?_)
  refine lv_if_ne (tgt := 12) hx hb dX0_isStruck_5 (by decide) (fun hc => ?_) (fun hc => ?_)
  · replace hf := ifn hc hf
    refine lv_iconst (v := 0) hx hb dX0_isStruck_12 (by decide) ?_
    exact g_zret X hr hlk hQ hW dX0_isStruck_13 (by decide) (rd_some hf)
  · replace hf := ifp hc hf
    refine lv_iconst (v := 1) hx hb dX0_isStruck_8 (by decide) ?_
    refine lv_goto (tgt := 13) hx hb dX0_isStruck_9 (by decide) ?_
    exact g_zret X hr hlk hQ hW dX0_isStruck_13 (by decide) (rd_some hf)

def f_X0_sentAs (o : Nat) (v1 : Int32) (v2 : Int32) (v3 : Int32) (M : Mem) : Option Int32 :=
  (grd (inb v2 7) (grd (inb v2 7) (jn (fun (k26 : Int32 → Option Int32) => (if ((shr (M.1 (o + 4) (ix v2)) ((M.1 (o + 2) (ix v2)) - 1)) &&& 1) = 1 then (k26 1) else (k26 0))) (fun (t0_26j : Int32) => (if v1 = 1 then (bR (f_X0_isStruck o v2 M) (fun r66 => (if r66 = 0 then (some v3) else (some 0)))) else (if v1 = 2 then (if t0_26j = 0 then (some v3) else (bR (f_X0_isStruck o v2 M) (fun r85 => (if r85 = 0 then (some v3) else (some 1))))) else (if v1 = 3 then (some v3) else (if v1 = 4 then (bR (f_X0_isStruck o v2 M) (fun r99 => (if r99 = 0 then (some v3) else (some (1 - v3))))) else (if v1 = 5 then (if t0_26j = 0 then (if (irm (M.1 o 7) 3) = 0 then (some 0) else (some v3)) else (bR (f_X0_isStruck o v2 M) (fun r135 => (if r135 = 0 then (some v3) else (some 1))))) else (some v3))))))))))
set_option maxHeartbeats 4000000 in
set_option maxRecDepth 100000 in
theorem c_X0_sentAs (l : Launch) (D : va_G) (cy : Nat → ClassId) (ad : Nat → Nat) {o : Nat} (ho : isSt o) {v1 : Int32} {v2 : Int32} {v3 : Int32} {M : Mem} {r : Int32} (hf : f_X0_sentAs o v1 v2 v3 M = some r) : MetX l 43 (CC ad cy) D cy ad yX0_sentAs cX0_sentAs 5 (some .int) 2 [.ref (ad o), .int v1, .int v2, .int v3] M (fun A => QI r M 43 (CC ad cy) D cy ad A) := by
  refine MetX.of (own := RX0) (by decide) rfl (Nat.le_of_ble_eq_true rfl) ?_
  intro p e s m below meth c A Q ls X hr hlk hZ hA hQ hW hl
  have hl : lv_has ls 5 [(0, .ref (ad o)), (1, .int v1), (2, .int v2), (3, .int v3)] := hl
  have hx := X.1
  have hb := X.2.1
  obtain ⟨H, hH⟩ : ∃ H, H = s.heap := ⟨_, rfl⟩
  obtain ⟨locs, hlo⟩ : ∃ q : List Loc, q = [] := ⟨_, rfl⟩
  have hW : Wd D 43 ad (CC ad cy) A s.heap M H locs := by rw [hH, hlo]; exact hW
  suffices hh : W p l e (rmD 2) s m ([.ref (ad o), .int v1, .int v2, .int v3] : List Value).toArray below meth c H locs 0 0 Q (F0 m 0 ls []) by rw [hH, hlo] at hh; exact hh
  unfold f_X0_sentAs at hf
  refine lv_aload_n hx hb dX0_sentAs_0 rfl (lv_at hl 0 rfl) ?_
  refine gf_X0_21 ho X hW dX0_sentAs_1 ?_
  refine lv_iload_n hx hb dX0_sentAs_4 rfl (lv_at hl 2 rfl) ?_
  obtain ⟨hi5, hf⟩ := grd_some hf
  refine g_iald X hW (iA_st4 ho) hi5 dX0_sentAs_5 ?_
  refine lv_aload_n hx hb dX0_sentAs_6 rfl (lv_at hl 0 rfl) ?_
  refine gf_X0_15 ho X hW dX0_sentAs_7 ?_
  refine lv_iload_n hx hb dX0_sentAs_10 rfl (lv_at hl 2 rfl) ?_
  obtain ⟨hi11, hf⟩ := grd_some hf
  refine g_iald X hW (iA_st2 ho) hi11 dX0_sentAs_11 ?_
  refine lv_iconst (v := 1) hx hb dX0_sentAs_12 (by decide) ?_
  refine lv_isub hx hb dX0_sentAs_13 ?_
  refine r_ishr hx hb dX0_sentAs_14 ?_
  refine lv_iconst (v := 1) hx hb dX0_sentAs_15 (by decide) ?_
  refine lv_iand hx hb dX0_sentAs_16 ?_
  refine lv_iconst (v := 1) hx hb dX0_sentAs_17 (by decide) ?_
  obtain ⟨k26, hk26, hf⟩ := jn_some1 hf
  have hJ26 : ∀ (t0_26j : Int32) (H : Heap) (locs : List Loc) (ls : Array Slot), k26 t0_26j = some r → Wd D 43 ad (CC ad cy) A s.heap M H locs → lv_has ls 5 [(0, .ref (ad o)), (1, .int v1), (2, .int v2), (3, .int v3)] → W p l e (rmD 2) s m ([.ref (ad o), .int v1, .int v2, .int v3] : List Value).toArray below meth c H locs 0 0 Q (F0 m 26 ls [.int t0_26j]) := by
    intro t0_26j H locs ls hf hW hl
    rw [hk26] at hf
    refine lv_istore (lv' := [(4, .int t0_26j), (0, .ref (ad o)), (1, .int v1), (2, .int v2), (3, .int v3)]) hx hb dX0_sentAs_26 hl (by decide) rfl (fun ls hl => ?_)
    refine lv_iload_n hx hb dX0_sentAs_28 rfl (lv_at hl 2 rfl) ?_
    by_cases hc1 : v1 = 1
    · replace hf := ifp hc1 hf
      refine lv_tableIn (tgt := 64) hx hb dX0_sentAs_29 (by rw [hc1]; decide) (by rw [hc1]; decide) (by rw [hc1]; rfl) (by decide) ?_
      refine lv_aload_n hx hb dX0_sentAs_64 rfl (lv_at hl 1 rfl) ?_
      refine lv_iload_n hx hb dX0_sentAs_65 rfl (lv_at hl 3 rfl) ?_
      obtain ⟨r66, h66, hf⟩ := bR_some hf
      refine g_calliV X hl.1 hZ hA hW (c_X0_isStruck l D cy ad ho h66) cw_X0_isStruck ql_X0_75 (iO_st ho) rfl (by decide) rfl (Nat.le_of_ble_eq_true rfl) dX0_sentAs_66 (fun H locs hW => ?_)
      refine lv_if_eq (tgt := 76) hx hb dX0_sentAs_69 (by decide) (fun hc => ?_) (fun hc => ?_)
      · replace hf := ifp hc hf
        refine lv_iload_n hx hb dX0_sentAs_76 rfl (lv_at hl 4 rfl) ?_
        exact g_iret X hr hlk hQ hW dX0_sentAs_77 (rd_some hf)
      · replace hf := ifn hc hf
        refine lv_iconst (v := 0) hx hb dX0_sentAs_72 (by decide) ?_
        refine lv_goto (tgt := 77) hx hb dX0_sentAs_73 (by decide) ?_
        exact g_iret X hr hlk hQ hW dX0_sentAs_77 (rd_some hf)
    · replace hf := ifn hc1 hf
      by_cases hc2 : v1 = 2
      · replace hf := ifp hc2 hf
        refine lv_tableIn (tgt := 78) hx hb dX0_sentAs_29 (by rw [hc2]; decide) (by rw [hc2]; decide) (by rw [hc2]; rfl) (by decide) ?_
        refine lv_iload hx hb dX0_sentAs_78 (lv_at hl 0 rfl) ?_
        refine lv_if_eq (tgt := 95) hx hb dX0_sentAs_80 (by decide) (fun hc => ?_) (fun hc => ?_)
        · replace hf := ifp hc hf
          refine lv_iload_n hx hb dX0_sentAs_95 rfl (lv_at hl 4 rfl) ?_
          exact g_iret X hr hlk hQ hW dX0_sentAs_96 (rd_some hf)
        · replace hf := ifn hc hf
          refine lv_aload_n hx hb dX0_sentAs_83 rfl (lv_at hl 1 rfl) ?_
          refine lv_iload_n hx hb dX0_sentAs_84 rfl (lv_at hl 3 rfl) ?_
          obtain ⟨r85, h85, hf⟩ := bR_some hf
          refine g_calliV X hl.1 hZ hA hW (c_X0_isStruck l D cy ad ho h85) cw_X0_isStruck ql_X0_75 (iO_st ho) rfl (by decide) rfl (Nat.le_of_ble_eq_true rfl) dX0_sentAs_85 (fun H locs hW => ?_)
          refine lv_if_eq (tgt := 95) hx hb dX0_sentAs_88 (by decide) (fun hc => ?_) (fun hc => ?_)
          · replace hf := ifp hc hf
            refine lv_iload_n hx hb dX0_sentAs_95 rfl (lv_at hl 4 rfl) ?_
            exact g_iret X hr hlk hQ hW dX0_sentAs_96 (rd_some hf)
          · replace hf := ifn hc hf
            refine lv_iconst (v := 1) hx hb dX0_sentAs_91 (by decide) ?_
            refine lv_goto (tgt := 96) hx hb dX0_sentAs_92 (by decide) ?_
            exact g_iret X hr hlk hQ hW dX0_sentAs_96 (rd_some hf)
      · replace hf := ifn hc2 hf
        by_cases hc3 : v1 = 3
        · replace hf := ifp hc3 hf
          refine lv_tableIn (tgt := 147) hx hb dX0_sentAs_29 (by rw [hc3]; decide) (by rw [hc3]; decide) (by rw [hc3]; rfl) (by decide) ?_
          refine lv_iload_n hx hb dX0_sentAs_147 rfl (lv_at hl 4 rfl) ?_
          exact g_iret X hr hlk hQ hW dX0_sentAs_148 (rd_some hf)
        · replace hf := ifn hc3 hf
          by_cases hc4 : v1 = 4
          · replace hf := ifp hc4 hf
            refine lv_tableIn (tgt := 97) hx hb dX0_sentAs_29 (by rw [hc4]; decide) (by rw [hc4]; decide) (by rw [hc4]; rfl) (by decide) ?_
            refine lv_aload_n hx hb dX0_sentAs_97 rfl (lv_at hl 1 rfl) ?_
            refine lv_iload_n hx hb dX0_sentAs_98 rfl (lv_at hl 3 rfl) ?_
            obtain ⟨r99, h99, hf⟩ := bR_some hf
            refine g_calliV X hl.1 hZ hA hW (c_X0_isStruck l D cy ad ho h99) cw_X0_isStruck ql_X0_75 (iO_st ho) rfl (by decide) rfl (Nat.le_of_ble_eq_true rfl) dX0_sentAs_99 (fun H locs hW => ?_)
            refine lv_if_eq (tgt := 111) hx hb dX0_sentAs_102 (by decide) (fun hc => ?_) (fun hc => ?_)
            · replace hf := ifp hc hf
              refine lv_iload_n hx hb dX0_sentAs_111 rfl (lv_at hl 4 rfl) ?_
              exact g_iret X hr hlk hQ hW dX0_sentAs_112 (rd_some hf)
            · replace hf := ifn hc hf
              refine lv_iconst (v := 1) hx hb dX0_sentAs_105 (by decide) ?_
              refine lv_iload_n hx hb dX0_sentAs_106 rfl (lv_at hl 4 rfl) ?_
              refine lv_isub hx hb dX0_sentAs_107 ?_
              refine lv_goto (tgt := 112) hx hb dX0_sentAs_108 (by decide) ?_
              exact g_iret X hr hlk hQ hW dX0_sentAs_112 (rd_some hf)
          · replace hf := ifn hc4 hf
            by_cases hc5 : v1 = 5
            · replace hf := ifp hc5 hf
              refine lv_tableIn (tgt := 113) hx hb dX0_sentAs_29 (by rw [hc5]; decide) (by rw [hc5]; decide) (by rw [hc5]; rfl) (by decide) ?_
              refine lv_iload hx hb dX0_sentAs_113 (lv_at hl 0 rfl) ?_
              refine lv_if_ne (tgt := 133) hx hb dX0_sentAs_115 (by decide) (fun hc => ?_) (fun hc => ?_)
              · replace hf := ifn hc hf
                refine lv_aload_n hx hb dX0_sentAs_133 rfl (lv_at hl 1 rfl) ?_
                refine lv_iload_n hx hb dX0_sentAs_134 rfl (lv_at hl 3 rfl) ?_
                obtain ⟨r135, h135, hf⟩ := bR_some hf
                refine g_calliV X hl.1 hZ hA hW (c_X0_isStruck l D cy ad ho h135) cw_X0_isStruck ql_X0_75 (iO_st ho) rfl (by decide) rfl (Nat.le_of_ble_eq_true rfl) dX0_sentAs_135 (fun H locs hW => ?_)
                refine lv_if_eq (tgt := 145) hx hb dX0_sentAs_138 (by decide) (fun hc => ?_) (fun hc => ?_)
                · replace hf := ifp hc hf
                  refine lv_iload_n hx hb dX0_sentAs_145 rfl (lv_at hl 4 rfl) ?_
                  exact g_iret X hr hlk hQ hW dX0_sentAs_146 (rd_some hf)
                · replace hf := ifn hc hf
                  refine lv_iconst (v := 1) hx hb dX0_sentAs_141 (by decide) ?_
                  refine lv_goto (tgt := 146) hx hb dX0_sentAs_142 (by decide) ?_
                  exact g_iret X hr hlk hQ hW dX0_sentAs_146 (rd_some hf)
              · replace hf := ifp hc hf
                refine lv_aload_n hx hb dX0_sentAs_118 rfl (lv_at hl 1 rfl) ?_
                refine gf_X0_34 ho X hW dX0_sentAs_119 ?_
                refine lv_iconst (v := 3) hx hb dX0_sentAs_122 (by decide) ?_
                refine r_irem hx hb dX0_sentAs_123 (by decide) ?_
                refine lv_if_ne (tgt := 131) hx hb dX0_sentAs_124 (by decide) (fun hc => ?_) (fun hc => ?_)
                · replace hf := ifn hc hf
                  refine lv_iload_n hx hb dX0_sentAs_131 rfl (lv_at hl 4 rfl) ?_
                  exact g_iret X hr hlk hQ hW dX0_sentAs_132 (rd_some hf)
                · replace hf := ifp hc hf
                  refine lv_iconst (v := 0) hx hb dX0_sentAs_127 (by decide) ?_
                  refine lv_goto (tgt := 132) hx hb dX0_sentAs_128 (by decide) ?_
                  exact g_iret X hr hlk hQ hW dX0_sentAs_132 (rd_some hf)
            · replace hf := ifn hc5 hf
              refine lv_tableOut (tgt := 147) hx hb dX0_sentAs_29 (by have q1 := sw_ne (a := 1) hc1 (by decide); have q2 := sw_ne (a := 2) hc2 (by decide); have q3 := sw_ne (a := 3) hc3 (by decide); have q4 := sw_ne (a := 4) hc4 (by decide); have q5 := sw_ne (a := 5) hc5 (by decide); omega) (by decide) ?_
              refine lv_iload_n hx hb dX0_sentAs_147 rfl (lv_at hl 4 rfl) ?_
              exact g_iret X hr hlk hQ hW dX0_sentAs_148 (rd_some hf)
  refine lv_icmp_ne (tgt := 25) hx hb dX0_sentAs_18 (by decide) (fun hc => ?_) (fun hc => ?_)
  · replace hf := ifn hc hf
    refine lv_iconst (v := 0) hx hb dX0_sentAs_25 (by decide) ?_
    exact hJ26 0 H locs ls hf hW (lv_sub hl [0, 1, 2, 3] rfl)
  · replace hf := ifp hc hf
    refine lv_iconst (v := 1) hx hb dX0_sentAs_21 (by decide) ?_
    refine lv_goto (tgt := 26) hx hb dX0_sentAs_22 (by decide) ?_
    exact hJ26 1 H locs ls hf hW (lv_sub hl [0, 1, 2, 3] rfl)

def f_X0_fact (o : Nat) (v1 : Int32) (v2 : Int32) (M : Mem) : Option Int32 :=
  (if v2 = 0 then (grd (inb v1 7) (some (M.1 (o + 1) (ix v1)))) else (if v2 = 1 then (grd (inb v1 7) (some (M.1 (o + 2) (ix v1)))) else (if v2 = 2 then (grd (inb v1 7) (some (M.1 (o + 3) (ix v1)))) else (if v2 = 3 then (grd (inb v1 7) (some (M.1 (o + 4) (ix v1)))) else (if v2 = 4 then (grd (inb v1 7) (some (M.1 (o + 5) (ix v1)))) else (if v2 = 5 then (bR (f_X0_isReady o v1 M) (fun r77 => (if r77 = 0 then (some 0) else (some 1)))) else (grd (inb v1 7) (bR (f_X0_cameTo o v1 M) (fun r99 => (bR (f_X0_sentAs o (M.1 (o + 1) (ix v1)) v1 r99 M) (fun r102 => (some r102))))))))))))
set_option maxHeartbeats 4000000 in
set_option maxRecDepth 100000 in
theorem c_X0_fact (l : Launch) (D : va_G) (cy : Nat → ClassId) (ad : Nat → Nat) {o : Nat} (ho : isSt o) {v1 : Int32} {v2 : Int32} {M : Mem} {r : Int32} (hf : f_X0_fact o v1 v2 M = some r) : MetX l 43 (CC ad cy) D cy ad yX0_fact cX0_fact 3 (some .int) 3 [.ref (ad o), .int v1, .int v2] M (fun A => QI r M 43 (CC ad cy) D cy ad A) := by
  refine MetX.of (own := RX0) (by decide) rfl (Nat.le_of_ble_eq_true rfl) ?_
  intro p e s m below meth c A Q ls X hr hlk hZ hA hQ hW hl
  have hl : lv_has ls 3 [(0, .ref (ad o)), (1, .int v1), (2, .int v2)] := hl
  have hx := X.1
  have hb := X.2.1
  obtain ⟨H, hH⟩ : ∃ H, H = s.heap := ⟨_, rfl⟩
  obtain ⟨locs, hlo⟩ : ∃ q : List Loc, q = [] := ⟨_, rfl⟩
  have hW : Wd D 43 ad (CC ad cy) A s.heap M H locs := by rw [hH, hlo]; exact hW
  suffices hh : W p l e (rmD 3) s m ([.ref (ad o), .int v1, .int v2] : List Value).toArray below meth c H locs 0 0 Q (F0 m 0 ls []) by rw [hH, hlo] at hh; exact hh
  unfold f_X0_fact at hf
  refine lv_iload_n hx hb dX0_fact_0 rfl (lv_at hl 2 rfl) ?_
  by_cases hc0 : v2 = 0
  · replace hf := ifp hc0 hf
    refine lv_tableIn (tgt := 40) hx hb dX0_fact_1 (by rw [hc0]; decide) (by rw [hc0]; decide) (by rw [hc0]; rfl) (by decide) ?_
    refine lv_aload_n hx hb dX0_fact_40 rfl (lv_at hl 0 rfl) ?_
    refine gf_X0_9 ho X hW dX0_fact_41 ?_
    refine lv_iload_n hx hb dX0_fact_44 rfl (lv_at hl 1 rfl) ?_
    obtain ⟨hi45, hf⟩ := grd_some hf
    refine g_iald X hW (iA_st1 ho) hi45 dX0_fact_45 ?_
    exact g_iret X hr hlk hQ hW dX0_fact_46 (rd_some hf)
  · replace hf := ifn hc0 hf
    by_cases hc1 : v2 = 1
    · replace hf := ifp hc1 hf
      refine lv_tableIn (tgt := 47) hx hb dX0_fact_1 (by rw [hc1]; decide) (by rw [hc1]; decide) (by rw [hc1]; rfl) (by decide) ?_
      refine lv_aload_n hx hb dX0_fact_47 rfl (lv_at hl 0 rfl) ?_
      refine gf_X0_15 ho X hW dX0_fact_48 ?_
      refine lv_iload_n hx hb dX0_fact_51 rfl (lv_at hl 1 rfl) ?_
      obtain ⟨hi52, hf⟩ := grd_some hf
      refine g_iald X hW (iA_st2 ho) hi52 dX0_fact_52 ?_
      exact g_iret X hr hlk hQ hW dX0_fact_53 (rd_some hf)
    · replace hf := ifn hc1 hf
      by_cases hc2 : v2 = 2
      · replace hf := ifp hc2 hf
        refine lv_tableIn (tgt := 54) hx hb dX0_fact_1 (by rw [hc2]; decide) (by rw [hc2]; decide) (by rw [hc2]; rfl) (by decide) ?_
        refine lv_aload_n hx hb dX0_fact_54 rfl (lv_at hl 0 rfl) ?_
        refine gf_X0_18 ho X hW dX0_fact_55 ?_
        refine lv_iload_n hx hb dX0_fact_58 rfl (lv_at hl 1 rfl) ?_
        obtain ⟨hi59, hf⟩ := grd_some hf
        refine g_iald X hW (iA_st3 ho) hi59 dX0_fact_59 ?_
        exact g_iret X hr hlk hQ hW dX0_fact_60 (rd_some hf)
      · replace hf := ifn hc2 hf
        by_cases hc3 : v2 = 3
        · replace hf := ifp hc3 hf
          refine lv_tableIn (tgt := 61) hx hb dX0_fact_1 (by rw [hc3]; decide) (by rw [hc3]; decide) (by rw [hc3]; rfl) (by decide) ?_
          refine lv_aload_n hx hb dX0_fact_61 rfl (lv_at hl 0 rfl) ?_
          refine gf_X0_21 ho X hW dX0_fact_62 ?_
          refine lv_iload_n hx hb dX0_fact_65 rfl (lv_at hl 1 rfl) ?_
          obtain ⟨hi66, hf⟩ := grd_some hf
          refine g_iald X hW (iA_st4 ho) hi66 dX0_fact_66 ?_
          exact g_iret X hr hlk hQ hW dX0_fact_67 (rd_some hf)
        · replace hf := ifn hc3 hf
          by_cases hc4 : v2 = 4
          · replace hf := ifp hc4 hf
            refine lv_tableIn (tgt := 68) hx hb dX0_fact_1 (by rw [hc4]; decide) (by rw [hc4]; decide) (by rw [hc4]; rfl) (by decide) ?_
            refine lv_aload_n hx hb dX0_fact_68 rfl (lv_at hl 0 rfl) ?_
            refine gf_X0_24 ho X hW dX0_fact_69 ?_
            refine lv_iload_n hx hb dX0_fact_72 rfl (lv_at hl 1 rfl) ?_
            obtain ⟨hi73, hf⟩ := grd_some hf
            refine g_iald X hW (iA_st5 ho) hi73 dX0_fact_73 ?_
            exact g_iret X hr hlk hQ hW dX0_fact_74 (rd_some hf)
          · replace hf := ifn hc4 hf
            by_cases hc5 : v2 = 5
            · replace hf := ifp hc5 hf
              refine lv_tableIn (tgt := 75) hx hb dX0_fact_1 (by rw [hc5]; decide) (by rw [hc5]; decide) (by rw [hc5]; rfl) (by decide) ?_
              refine lv_aload_n hx hb dX0_fact_75 rfl (lv_at hl 0 rfl) ?_
              refine lv_iload_n hx hb dX0_fact_76 rfl (lv_at hl 1 rfl) ?_
              obtain ⟨r77, h77, hf⟩ := bR_some hf
              refine g_calliV X hl.1 hZ hA hW (c_X0_isReady l D cy ad ho h77) cw_X0_isReady ql_X0_65 (iO_st ho) rfl (by decide) rfl (Nat.le_of_ble_eq_true rfl) dX0_fact_77 (fun H locs hW => ?_)
              refine lv_if_eq (tgt := 87) hx hb dX0_fact_80 (by decide) (fun hc => ?_) (fun hc => ?_)
              · replace hf := ifp hc hf
                refine lv_iconst (v := 0) hx hb dX0_fact_87 (by decide) ?_
                exact g_iret X hr hlk hQ hW dX0_fact_88 (rd_some hf)
              · replace hf := ifn hc hf
                refine lv_iconst (v := 1) hx hb dX0_fact_83 (by decide) ?_
                refine lv_goto (tgt := 88) hx hb dX0_fact_84 (by decide) ?_
                exact g_iret X hr hlk hQ hW dX0_fact_88 (rd_some hf)
            · replace hf := ifn hc5 hf
              refine lv_tableOut (tgt := 89) hx hb dX0_fact_1 (by have q0 := sw_ne (a := 0) hc0 (by decide); have q1 := sw_ne (a := 1) hc1 (by decide); have q2 := sw_ne (a := 2) hc2 (by decide); have q3 := sw_ne (a := 3) hc3 (by decide); have q4 := sw_ne (a := 4) hc4 (by decide); have q5 := sw_ne (a := 5) hc5 (by decide); omega) (by decide) ?_
              refine lv_aload_n hx hb dX0_fact_89 rfl (lv_at hl 0 rfl) ?_
              refine lv_aload_n hx hb dX0_fact_90 rfl (lv_at hl 0 rfl) ?_
              refine gf_X0_9 ho X hW dX0_fact_91 ?_
              refine lv_iload_n hx hb dX0_fact_94 rfl (lv_at hl 1 rfl) ?_
              obtain ⟨hi95, hf⟩ := grd_some hf
              refine g_iald X hW (iA_st1 ho) hi95 dX0_fact_95 ?_
              refine lv_iload_n hx hb dX0_fact_96 rfl (lv_at hl 1 rfl) ?_
              refine lv_aload_n hx hb dX0_fact_97 rfl (lv_at hl 0 rfl) ?_
              refine lv_iload_n hx hb dX0_fact_98 rfl (lv_at hl 1 rfl) ?_
              obtain ⟨r99, h99, hf⟩ := bR_some hf
              refine g_calliV X hl.1 hZ hA hW (c_X0_cameTo l D cy ad ho h99) cw_X0_cameTo ql_X0_78 (iO_st ho) rfl (by decide) rfl (Nat.le_of_ble_eq_true rfl) dX0_fact_99 (fun H locs hW => ?_)
              obtain ⟨r102, h102, hf⟩ := bR_some hf
              refine g_calliV X hl.1 hZ hA hW (c_X0_sentAs l D cy ad ho h102) cw_X0_sentAs ql_X0_68 (iO_st ho) rfl (by decide) rfl (Nat.le_of_ble_eq_true rfl) dX0_fact_102 (fun H locs hW => ?_)
              exact g_iret X hr hlk hQ hW dX0_fact_105 (rd_some hf)

def f_X0_isOf (o : Nat) (v1 : Int32) (v2 : Int32) (M : Mem) : Option Int32 :=
  (grd (inb v1 7) (if (M.1 (o + 1) (ix v1)) = v2 then (some 1) else (jn (fun (k22 : Option Int32) => (if v2 = 1 then (if (M.1 (o + 1) (ix v1)) = 4 then (some 1) else k22) else k22)) ((if v2 = 2 then (if (M.1 (o + 1) (ix v1)) = 5 then (some 1) else (some 0)) else (some 0))))))
set_option maxHeartbeats 4000000 in
set_option maxRecDepth 100000 in
theorem c_X0_isOf (l : Launch) (D : va_G) (cy : Nat → ClassId) (ad : Nat → Nat) {o : Nat} (ho : isSt o) {v1 : Int32} {v2 : Int32} {M : Mem} {r : Int32} (hf : f_X0_isOf o v1 v2 M = some r) : MetX l 43 (CC ad cy) D cy ad yX0_isOf cX0_isOf 4 (some .boolean) 0 [.ref (ad o), .int v1, .int v2] M (fun A => QI r M 43 (CC ad cy) D cy ad A) := by
  refine MetX.of (own := RX0) (by decide) rfl (Nat.le_of_ble_eq_true rfl) ?_
  intro p e s m below meth c A Q ls X hr hlk hZ hA hQ hW hl
  have hl : lv_has ls 4 [(0, .ref (ad o)), (1, .int v1), (2, .int v2)] := hl
  have hx := X.1
  have hb := X.2.1
  obtain ⟨H, hH⟩ : ∃ H, H = s.heap := ⟨_, rfl⟩
  obtain ⟨locs, hlo⟩ : ∃ q : List Loc, q = [] := ⟨_, rfl⟩
  have hW : Wd D 43 ad (CC ad cy) A s.heap M H locs := by rw [hH, hlo]; exact hW
  suffices hh : W p l e (rmD 0) s m ([.ref (ad o), .int v1, .int v2] : List Value).toArray below meth c H locs 0 0 Q (F0 m 0 ls []) by rw [hH, hlo] at hh; exact hh
  unfold f_X0_isOf at hf
  refine lv_aload_n hx hb dX0_isOf_0 rfl (lv_at hl 0 rfl) ?_
  refine gf_X0_9 ho X hW dX0_isOf_1 ?_
  refine lv_iload_n hx hb dX0_isOf_4 rfl (lv_at hl 1 rfl) ?_
  obtain ⟨hi5, hf⟩ := grd_some hf
  refine g_iald X hW (iA_st1 ho) hi5 dX0_isOf_5 ?_
  refine lv_istore_n (lv' := [(3, .int (M.1 (o + 1) (ix v1))), (0, .ref (ad o)), (1, .int v1), (2, .int v2)]) hx hb dX0_isOf_6 rfl hl (by decide) rfl (fun ls hl => ?_)
  refine lv_iload_n hx hb dX0_isOf_7 rfl (lv_at hl 0 rfl) ?_
  refine lv_iload_n hx hb dX0_isOf_8 rfl (lv_at hl 3 rfl) ?_
  refine lv_icmp_eq (tgt := 32) hx hb dX0_isOf_9 (by decide) (fun hc => ?_) (fun hc => ?_)
  · replace hf := ifp hc hf
    refine lv_iconst (v := 1) hx hb dX0_isOf_32 (by decide) ?_
    refine lv_goto (tgt := 37) hx hb dX0_isOf_33 (by decide) ?_
    exact g_zret X hr hlk hQ hW dX0_isOf_37 (by decide) (rd_some hf)
  · replace hf := ifn hc hf
    refine lv_iload_n hx hb dX0_isOf_12 rfl (lv_at hl 3 rfl) ?_
    refine lv_iconst (v := 1) hx hb dX0_isOf_13 (by decide) ?_
    obtain ⟨k22, hk22, hf⟩ := jn_some0 hf
    have hJ22 : ∀  (H : Heap) (locs : List Loc) (ls : Array Slot), k22 = some r → Wd D 43 ad (CC ad cy) A s.heap M H locs → lv_has ls 4 [(2, .int v2), (3, .int (M.1 (o + 1) (ix v1)))] → W p l e (rmD 0) s m ([.ref (ad o), .int v1, .int v2] : List Value).toArray below meth c H locs 0 0 Q (F0 m 22 ls []) := by
      intro  H locs ls hf hW hl
      rw [hk22] at hf
      refine lv_iload_n hx hb dX0_isOf_22 rfl (lv_at hl 0 rfl) ?_
      refine lv_iconst (v := 2) hx hb dX0_isOf_23 (by decide) ?_
      refine lv_icmp_ne (tgt := 36) hx hb dX0_isOf_24 (by decide) (fun hc => ?_) (fun hc => ?_)
      · replace hf := ifn hc hf
        refine lv_iconst (v := 0) hx hb dX0_isOf_36 (by decide) ?_
        exact g_zret X hr hlk hQ hW dX0_isOf_37 (by decide) (rd_some hf)
      · replace hf := ifp hc hf
        refine lv_iload_n hx hb dX0_isOf_27 rfl (lv_at hl 1 rfl) ?_
        refine lv_iconst (v := 5) hx hb dX0_isOf_28 (by decide) ?_
        refine lv_icmp_ne (tgt := 36) hx hb dX0_isOf_29 (by decide) (fun hc => ?_) (fun hc => ?_)
        · replace hf := ifn hc hf
          refine lv_iconst (v := 0) hx hb dX0_isOf_36 (by decide) ?_
          exact g_zret X hr hlk hQ hW dX0_isOf_37 (by decide) (rd_some hf)
        · replace hf := ifp hc hf
          refine lv_iconst (v := 1) hx hb dX0_isOf_32 (by decide) ?_
          refine lv_goto (tgt := 37) hx hb dX0_isOf_33 (by decide) ?_
          exact g_zret X hr hlk hQ hW dX0_isOf_37 (by decide) (rd_some hf)
    refine lv_icmp_ne (tgt := 22) hx hb dX0_isOf_14 (by decide) (fun hc => ?_) (fun hc => ?_)
    · replace hf := ifn hc hf
      exact hJ22  H locs ls hf hW (lv_sub hl [3, 0] rfl)
    · replace hf := ifp hc hf
      refine lv_iload_n hx hb dX0_isOf_17 rfl (lv_at hl 0 rfl) ?_
      refine lv_iconst (v := 4) hx hb dX0_isOf_18 (by decide) ?_
      refine lv_icmp_eq (tgt := 32) hx hb dX0_isOf_19 (by decide) (fun hc => ?_) (fun hc => ?_)
      · replace hf := ifp hc hf
        refine lv_iconst (v := 1) hx hb dX0_isOf_32 (by decide) ?_
        refine lv_goto (tgt := 37) hx hb dX0_isOf_33 (by decide) ?_
        exact g_zret X hr hlk hQ hW dX0_isOf_37 (by decide) (rd_some hf)
      · replace hf := ifn hc hf
        exact hJ22  H locs ls hf hW (lv_sub hl [3, 0] rfl)

def f_X0_tells (o : Nat) (v1 : Int32) (v2 : Int32) (M : Mem) : Option Int32 :=
  (bR (f_X0_cameTo o v1 M) (fun r2 => (if v2 = 1 then (bR (f_X0_ticksTillStruck o v1 M) (fun r38 => (some r38))) else (if v2 = 2 then (grd (inb v1 7) (bR (f_X0_sentAs o (M.1 (o + 1) (ix v1)) v1 1 M) (fun r51 => (grd (inb v1 7) (bR (f_X0_sentAs o (M.1 (o + 1) (ix v1)) v1 0 M) (fun r63 => (if r51 = r63 then (some 1) else (some 0)))))))) else (if v2 = 3 then (grd (inb v1 7) (some (2 * (M.1 (o + 2) (ix v1))))) else (if v2 = 4 then (bR (f_X0_sentAs o 4 v1 r2 M) (fun r88 => (bR (f_X0_sentAs o 1 v1 r2 M) (fun r95 => (if r88 = r95 then (some 0) else (some 1)))))) else (bR (f_X0_sentAs o 5 v1 r2 M) (fun r111 => (bR (f_X0_sentAs o 2 v1 r2 M) (fun r118 => (if r111 = r118 then (some 0) else (some 1))))))))))))
set_option maxHeartbeats 4000000 in
set_option maxRecDepth 100000 in
theorem c_X0_tells (l : Launch) (D : va_G) (cy : Nat → ClassId) (ad : Nat → Nat) {o : Nat} (ho : isSt o) {v1 : Int32} {v2 : Int32} {M : Mem} {r : Int32} (hf : f_X0_tells o v1 v2 M = some r) : MetX l 43 (CC ad cy) D cy ad yX0_tells cX0_tells 4 (some .int) 3 [.ref (ad o), .int v1, .int v2] M (fun A => QI r M 43 (CC ad cy) D cy ad A) := by
  refine MetX.of (own := RX0) (by decide) rfl (Nat.le_of_ble_eq_true rfl) ?_
  intro p e s m below meth c A Q ls X hr hlk hZ hA hQ hW hl
  have hl : lv_has ls 4 [(0, .ref (ad o)), (1, .int v1), (2, .int v2)] := hl
  have hx := X.1
  have hb := X.2.1
  obtain ⟨H, hH⟩ : ∃ H, H = s.heap := ⟨_, rfl⟩
  obtain ⟨locs, hlo⟩ : ∃ q : List Loc, q = [] := ⟨_, rfl⟩
  have hW : Wd D 43 ad (CC ad cy) A s.heap M H locs := by rw [hH, hlo]; exact hW
  suffices hh : W p l e (rmD 3) s m ([.ref (ad o), .int v1, .int v2] : List Value).toArray below meth c H locs 0 0 Q (F0 m 0 ls []) by rw [hH, hlo] at hh; exact hh
  unfold f_X0_tells at hf
  refine lv_aload_n hx hb dX0_tells_0 rfl (lv_at hl 0 rfl) ?_
  refine lv_iload_n hx hb dX0_tells_1 rfl (lv_at hl 1 rfl) ?_
  obtain ⟨r2, h2, hf⟩ := bR_some hf
  refine g_calliV X hl.1 hZ hA hW (c_X0_cameTo l D cy ad ho h2) cw_X0_cameTo ql_X0_78 (iO_st ho) rfl (by decide) rfl (Nat.le_of_ble_eq_true rfl) dX0_tells_2 (fun H locs hW => ?_)
  refine lv_istore_n (lv' := [(3, .int r2), (0, .ref (ad o)), (1, .int v1), (2, .int v2)]) hx hb dX0_tells_5 rfl hl (by decide) rfl (fun ls hl => ?_)
  refine lv_iload_n hx hb dX0_tells_6 rfl (lv_at hl 3 rfl) ?_
  by_cases hc1 : v2 = 1
  · replace hf := ifp hc1 hf
    refine lv_tableIn (tgt := 36) hx hb dX0_tells_7 (by rw [hc1]; decide) (by rw [hc1]; decide) (by rw [hc1]; rfl) (by decide) ?_
    refine lv_aload_n hx hb dX0_tells_36 rfl (lv_at hl 1 rfl) ?_
    refine lv_iload_n hx hb dX0_tells_37 rfl (lv_at hl 2 rfl) ?_
    obtain ⟨r38, h38, hf⟩ := bR_some hf
    refine g_calliV X hl.1 hZ hA hW (c_X0_ticksTillStruck l D cy ad ho h38) cw_X0_ticksTillStruck ql_X0_72 (iO_st ho) rfl (by decide) rfl (Nat.le_of_ble_eq_true rfl) dX0_tells_38 (fun H locs hW => ?_)
    exact g_iret X hr hlk hQ hW dX0_tells_41 (rd_some hf)
  · replace hf := ifn hc1 hf
    by_cases hc2 : v2 = 2
    · replace hf := ifp hc2 hf
      refine lv_tableIn (tgt := 42) hx hb dX0_tells_7 (by rw [hc2]; decide) (by rw [hc2]; decide) (by rw [hc2]; rfl) (by decide) ?_
      refine lv_aload_n hx hb dX0_tells_42 rfl (lv_at hl 1 rfl) ?_
      refine lv_aload_n hx hb dX0_tells_43 rfl (lv_at hl 1 rfl) ?_
      refine gf_X0_9 ho X hW dX0_tells_44 ?_
      refine lv_iload_n hx hb dX0_tells_47 rfl (lv_at hl 2 rfl) ?_
      obtain ⟨hi48, hf⟩ := grd_some hf
      refine g_iald X hW (iA_st1 ho) hi48 dX0_tells_48 ?_
      refine lv_iload_n hx hb dX0_tells_49 rfl (lv_at hl 2 rfl) ?_
      refine lv_iconst (v := 1) hx hb dX0_tells_50 (by decide) ?_
      obtain ⟨r51, h51, hf⟩ := bR_some hf
      refine g_calliV X hl.1 hZ hA hW (c_X0_sentAs l D cy ad ho h51) cw_X0_sentAs ql_X0_68 (iO_st ho) rfl (by decide) rfl (Nat.le_of_ble_eq_true rfl) dX0_tells_51 (fun H locs hW => ?_)
      refine lv_aload_n hx hb dX0_tells_54 rfl (lv_at hl 1 rfl) ?_
      refine lv_aload_n hx hb dX0_tells_55 rfl (lv_at hl 1 rfl) ?_
      refine gf_X0_9 ho X hW dX0_tells_56 ?_
      refine lv_iload_n hx hb dX0_tells_59 rfl (lv_at hl 2 rfl) ?_
      obtain ⟨hi60, hf⟩ := grd_some hf
      refine g_iald X hW (iA_st1 ho) hi60 dX0_tells_60 ?_
      refine lv_iload_n hx hb dX0_tells_61 rfl (lv_at hl 2 rfl) ?_
      refine lv_iconst (v := 0) hx hb dX0_tells_62 (by decide) ?_
      obtain ⟨r63, h63, hf⟩ := bR_some hf
      refine g_calliV X hl.1 hZ hA hW (c_X0_sentAs l D cy ad ho h63) cw_X0_sentAs ql_X0_68 (iO_st ho) rfl (by decide) rfl (Nat.le_of_ble_eq_true rfl) dX0_tells_63 (fun H locs hW => ?_)
      refine lv_icmp_ne (tgt := 73) hx hb dX0_tells_66 (by decide) (fun hc => ?_) (fun hc => ?_)
      · replace hf := ifn hc hf
        refine lv_iconst (v := 0) hx hb dX0_tells_73 (by decide) ?_
        exact g_iret X hr hlk hQ hW dX0_tells_74 (rd_some hf)
      · replace hf := ifp hc hf
        refine lv_iconst (v := 1) hx hb dX0_tells_69 (by decide) ?_
        refine lv_goto (tgt := 74) hx hb dX0_tells_70 (by decide) ?_
        exact g_iret X hr hlk hQ hW dX0_tells_74 (rd_some hf)
    · replace hf := ifn hc2 hf
      by_cases hc3 : v2 = 3
      · replace hf := ifp hc3 hf
        refine lv_tableIn (tgt := 75) hx hb dX0_tells_7 (by rw [hc3]; decide) (by rw [hc3]; decide) (by rw [hc3]; rfl) (by decide) ?_
        refine lv_iconst (v := 2) hx hb dX0_tells_75 (by decide) ?_
        refine lv_aload_n hx hb dX0_tells_76 rfl (lv_at hl 1 rfl) ?_
        refine gf_X0_15 ho X hW dX0_tells_77 ?_
        refine lv_iload_n hx hb dX0_tells_80 rfl (lv_at hl 2 rfl) ?_
        obtain ⟨hi81, hf⟩ := grd_some hf
        refine g_iald X hW (iA_st2 ho) hi81 dX0_tells_81 ?_
        refine lv_imul hx hb dX0_tells_82 ?_
        exact g_iret X hr hlk hQ hW dX0_tells_83 (rd_some hf)
      · replace hf := ifn hc3 hf
        by_cases hc4 : v2 = 4
        · replace hf := ifp hc4 hf
          refine lv_tableIn (tgt := 84) hx hb dX0_tells_7 (by rw [hc4]; decide) (by rw [hc4]; decide) (by rw [hc4]; rfl) (by decide) ?_
          refine lv_aload_n hx hb dX0_tells_84 rfl (lv_at hl 1 rfl) ?_
          refine lv_iconst (v := 4) hx hb dX0_tells_85 (by decide) ?_
          refine lv_iload_n hx hb dX0_tells_86 rfl (lv_at hl 2 rfl) ?_
          refine lv_iload_n hx hb dX0_tells_87 rfl (lv_at hl 0 rfl) ?_
          obtain ⟨r88, h88, hf⟩ := bR_some hf
          refine g_calliV X hl.1 hZ hA hW (c_X0_sentAs l D cy ad ho h88) cw_X0_sentAs ql_X0_68 (iO_st ho) rfl (by decide) rfl (Nat.le_of_ble_eq_true rfl) dX0_tells_88 (fun H locs hW => ?_)
          refine lv_aload_n hx hb dX0_tells_91 rfl (lv_at hl 1 rfl) ?_
          refine lv_iconst (v := 1) hx hb dX0_tells_92 (by decide) ?_
          refine lv_iload_n hx hb dX0_tells_93 rfl (lv_at hl 2 rfl) ?_
          refine lv_iload_n hx hb dX0_tells_94 rfl (lv_at hl 0 rfl) ?_
          obtain ⟨r95, h95, hf⟩ := bR_some hf
          refine g_calliV X hl.1 hZ hA hW (c_X0_sentAs l D cy ad ho h95) cw_X0_sentAs ql_X0_68 (iO_st ho) rfl (by decide) rfl (Nat.le_of_ble_eq_true rfl) dX0_tells_95 (fun H locs hW => ?_)
          refine lv_icmp_eq (tgt := 105) hx hb dX0_tells_98 (by decide) (fun hc => ?_) (fun hc => ?_)
          · replace hf := ifp hc hf
            refine lv_iconst (v := 0) hx hb dX0_tells_105 (by decide) ?_
            exact g_iret X hr hlk hQ hW dX0_tells_106 (rd_some hf)
          · replace hf := ifn hc hf
            refine lv_iconst (v := 1) hx hb dX0_tells_101 (by decide) ?_
            refine lv_goto (tgt := 106) hx hb dX0_tells_102 (by decide) ?_
            exact g_iret X hr hlk hQ hW dX0_tells_106 (rd_some hf)
        · replace hf := ifn hc4 hf
          refine lv_tableOut (tgt := 107) hx hb dX0_tells_7 (by have q1 := sw_ne (a := 1) hc1 (by decide); have q2 := sw_ne (a := 2) hc2 (by decide); have q3 := sw_ne (a := 3) hc3 (by decide); have q4 := sw_ne (a := 4) hc4 (by decide); omega) (by decide) ?_
          refine lv_aload_n hx hb dX0_tells_107 rfl (lv_at hl 1 rfl) ?_
          refine lv_iconst (v := 5) hx hb dX0_tells_108 (by decide) ?_
          refine lv_iload_n hx hb dX0_tells_109 rfl (lv_at hl 2 rfl) ?_
          refine lv_iload_n hx hb dX0_tells_110 rfl (lv_at hl 0 rfl) ?_
          obtain ⟨r111, h111, hf⟩ := bR_some hf
          refine g_calliV X hl.1 hZ hA hW (c_X0_sentAs l D cy ad ho h111) cw_X0_sentAs ql_X0_68 (iO_st ho) rfl (by decide) rfl (Nat.le_of_ble_eq_true rfl) dX0_tells_111 (fun H locs hW => ?_)
          refine lv_aload_n hx hb dX0_tells_114 rfl (lv_at hl 1 rfl) ?_
          refine lv_iconst (v := 2) hx hb dX0_tells_115 (by decide) ?_
          refine lv_iload_n hx hb dX0_tells_116 rfl (lv_at hl 2 rfl) ?_
          refine lv_iload_n hx hb dX0_tells_117 rfl (lv_at hl 0 rfl) ?_
          obtain ⟨r118, h118, hf⟩ := bR_some hf
          refine g_calliV X hl.1 hZ hA hW (c_X0_sentAs l D cy ad ho h118) cw_X0_sentAs ql_X0_68 (iO_st ho) rfl (by decide) rfl (Nat.le_of_ble_eq_true rfl) dX0_tells_118 (fun H locs hW => ?_)
          refine lv_icmp_eq (tgt := 128) hx hb dX0_tells_121 (by decide) (fun hc => ?_) (fun hc => ?_)
          · replace hf := ifp hc hf
            refine lv_iconst (v := 0) hx hb dX0_tells_128 (by decide) ?_
            exact g_iret X hr hlk hQ hW dX0_tells_129 (rd_some hf)
          · replace hf := ifn hc hf
            refine lv_iconst (v := 1) hx hb dX0_tells_124 (by decide) ?_
            refine lv_goto (tgt := 129) hx hb dX0_tells_125 (by decide) ?_
            exact g_iret X hr hlk hQ hW dX0_tells_129 (rd_some hf)
end
