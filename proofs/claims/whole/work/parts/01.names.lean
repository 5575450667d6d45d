-- ===== PART A: goes FIRST, ahead of the names: the tables' words, and 'selects' of the private methods out of them =====
/-- a private method of a class that the tables say can be made, by its rows of tables_1 -/
def lw_okq (q : MethodName × Nat) : Prop := (q.1.cls ≠ "java/lang/invoke/MethodHandle" ∧ q.1.cls ≠ "java/lang/invoke/VarHandle") ∧ Cond.instantiable q.1.cls q.2 ∈ tables_1 ∧ Cond.privateMethod q.1 ∈ tables_1 ∧ Cond.instanceMethod q.1 ∈ tables_1
theorem lw_p0 : lw_okq (⟨"IndependenceRows$Graph", "empty", "()V"⟩, 4) := ⟨⟨by decide +kernel, by decide +kernel⟩, List.mem_of_getElem? (i := 20) (by decide +kernel), List.mem_of_getElem? (i := 182) (by decide +kernel), List.mem_of_getElem? (i := 183) (by decide +kernel)⟩
theorem lw_p1 : lw_okq (⟨"IndependenceRows$Tables", "releaseAll", "()V"⟩, 3) := ⟨⟨by decide +kernel, by decide +kernel⟩, List.mem_of_getElem? (i := 50) (by decide +kernel), List.mem_of_getElem? (i := 189) (by decide +kernel), List.mem_of_getElem? (i := 190) (by decide +kernel)⟩
theorem lw_p2 : lw_okq (⟨"IndependenceRows$Tables", "startRows", "(I)V"⟩, 3) := ⟨⟨by decide +kernel, by decide +kernel⟩, List.mem_of_getElem? (i := 50) (by decide +kernel), List.mem_of_getElem? (i := 197) (by decide +kernel), List.mem_of_getElem? (i := 198) (by decide +kernel)⟩
theorem lw_p3 : lw_okq (⟨"IndependenceRows", "isPair", "(II)Z"⟩, 10) := ⟨⟨by decide +kernel, by decide +kernel⟩, List.mem_of_getElem? (i := 12) (by decide +kernel), List.mem_of_getElem? (i := 206) (by decide +kernel), List.mem_of_getElem? (i := 207) (by decide +kernel)⟩
theorem lw_p4 : lw_okq (⟨"IndependenceRows", "isPlace", "(I)Z"⟩, 10) := ⟨⟨by decide +kernel, by decide +kernel⟩, List.mem_of_getElem? (i := 12) (by decide +kernel), List.mem_of_getElem? (i := 210) (by decide +kernel), List.mem_of_getElem? (i := 211) (by decide +kernel)⟩
theorem lw_p5 : lw_okq (⟨"IndependenceRows$Graph", "neighbours", "(I)I"⟩, 4) := ⟨⟨by decide +kernel, by decide +kernel⟩, List.mem_of_getElem? (i := 20) (by decide +kernel), List.mem_of_getElem? (i := 214) (by decide +kernel), List.mem_of_getElem? (i := 215) (by decide +kernel)⟩
theorem lw_p6 : lw_okq (⟨"IndependenceRows$Graph", "join", "(II)V"⟩, 4) := ⟨⟨by decide +kernel, by decide +kernel⟩, List.mem_of_getElem? (i := 20) (by decide +kernel), List.mem_of_getElem? (i := 230) (by decide +kernel), List.mem_of_getElem? (i := 231) (by decide +kernel)⟩
theorem lw_p7 : lw_okq (⟨"IndependenceRows$Graph", "part", "(II)V"⟩, 4) := ⟨⟨by decide +kernel, by decide +kernel⟩, List.mem_of_getElem? (i := 20) (by decide +kernel), List.mem_of_getElem? (i := 239) (by decide +kernel), List.mem_of_getElem? (i := 240) (by decide +kernel)⟩
theorem lw_p8 : lw_okq (⟨"IndependenceRows", "isRow", "(II)Z"⟩, 10) := ⟨⟨by decide +kernel, by decide +kernel⟩, List.mem_of_getElem? (i := 12) (by decide +kernel), List.mem_of_getElem? (i := 247) (by decide +kernel), List.mem_of_getElem? (i := 248) (by decide +kernel)⟩
theorem lw_p9 : lw_okq (⟨"IndependenceRows$Graph", "rows", "(I)I"⟩, 4) := ⟨⟨by decide +kernel, by decide +kernel⟩, List.mem_of_getElem? (i := 20) (by decide +kernel), List.mem_of_getElem? (i := 251) (by decide +kernel), List.mem_of_getElem? (i := 252) (by decide +kernel)⟩
theorem lw_p10 : lw_okq (⟨"IndependenceRows$Tables", "heldAt", "(I)I"⟩, 3) := ⟨⟨by decide +kernel, by decide +kernel⟩, List.mem_of_getElem? (i := 50) (by decide +kernel), List.mem_of_getElem? (i := 265) (by decide +kernel), List.mem_of_getElem? (i := 266) (by decide +kernel)⟩
theorem lw_p11 : lw_okq (⟨"IndependenceRows$Tables", "setHeld", "(II)V"⟩, 3) := ⟨⟨by decide +kernel, by decide +kernel⟩, List.mem_of_getElem? (i := 50) (by decide +kernel), List.mem_of_getElem? (i := 270) (by decide +kernel), List.mem_of_getElem? (i := 271) (by decide +kernel)⟩
theorem lw_p12 : lw_okq (⟨"IndependenceRows$Walks", "lookAt", "(LIndependenceRows$Graph;II)V"⟩, 8) := ⟨⟨by decide +kernel, by decide +kernel⟩, List.mem_of_getElem? (i := 70) (by decide +kernel), List.mem_of_getElem? (i := 283) (by decide +kernel), List.mem_of_getElem? (i := 284) (by decide +kernel)⟩
theorem lw_p13 : lw_okq (⟨"IndependenceRows$Walks", "below", "(I)I"⟩, 8) := ⟨⟨by decide +kernel, by decide +kernel⟩, List.mem_of_getElem? (i := 70) (by decide +kernel), List.mem_of_getElem? (i := 288) (by decide +kernel), List.mem_of_getElem? (i := 289) (by decide +kernel)⟩
theorem lw_p14 : lw_okq (⟨"IndependenceRows", "isQuestion", "(III)Z"⟩, 10) := ⟨⟨by decide +kernel, by decide +kernel⟩, List.mem_of_getElem? (i := 12) (by decide +kernel), List.mem_of_getElem? (i := 297) (by decide +kernel), List.mem_of_getElem? (i := 298) (by decide +kernel)⟩
theorem lw_p15 : lw_okq (⟨"IndependenceRows", "isSet", "(I)Z"⟩, 10) := ⟨⟨by decide +kernel, by decide +kernel⟩, List.mem_of_getElem? (i := 12) (by decide +kernel), List.mem_of_getElem? (i := 301) (by decide +kernel), List.mem_of_getElem? (i := 302) (by decide +kernel)⟩
def lw_privs_1 : List (MethodName × Nat) := [(⟨"IndependenceRows$Graph", "empty", "()V"⟩, 4), (⟨"IndependenceRows$Tables", "releaseAll", "()V"⟩, 3), (⟨"IndependenceRows$Tables", "startRows", "(I)V"⟩, 3), (⟨"IndependenceRows", "isPair", "(II)Z"⟩, 10), (⟨"IndependenceRows", "isPlace", "(I)Z"⟩, 10), (⟨"IndependenceRows$Graph", "neighbours", "(I)I"⟩, 4), (⟨"IndependenceRows$Graph", "join", "(II)V"⟩, 4), (⟨"IndependenceRows$Graph", "part", "(II)V"⟩, 4), (⟨"IndependenceRows", "isRow", "(II)Z"⟩, 10), (⟨"IndependenceRows$Graph", "rows", "(I)I"⟩, 4), (⟨"IndependenceRows$Tables", "heldAt", "(I)I"⟩, 3), (⟨"IndependenceRows$Tables", "setHeld", "(II)V"⟩, 3), (⟨"IndependenceRows$Walks", "lookAt", "(LIndependenceRows$Graph;II)V"⟩, 8), (⟨"IndependenceRows$Walks", "below", "(I)I"⟩, 8), (⟨"IndependenceRows", "isQuestion", "(III)Z"⟩, 10), (⟨"IndependenceRows", "isSet", "(I)Z"⟩, 10)]
theorem lw_r1 : ∀ q ∈ lw_privs_1, lw_okq q := List.forall_mem_cons.mpr ⟨lw_p0, List.forall_mem_cons.mpr ⟨lw_p1, List.forall_mem_cons.mpr ⟨lw_p2, List.forall_mem_cons.mpr ⟨lw_p3, List.forall_mem_cons.mpr ⟨lw_p4, List.forall_mem_cons.mpr ⟨lw_p5, List.forall_mem_cons.mpr ⟨lw_p6, List.forall_mem_cons.mpr ⟨lw_p7, List.forall_mem_cons.mpr ⟨lw_p8, List.forall_mem_cons.mpr ⟨lw_p9, List.forall_mem_cons.mpr ⟨lw_p10, List.forall_mem_cons.mpr ⟨lw_p11, List.forall_mem_cons.mpr ⟨lw_p12, List.forall_mem_cons.mpr ⟨lw_p13, List.forall_mem_cons.mpr ⟨lw_p14, List.forall_mem_cons.mpr ⟨lw_p15, fun _ h => absurd h List.not_mem_nil⟩⟩⟩⟩⟩⟩⟩⟩⟩⟩⟩⟩⟩⟩⟩⟩
theorem lw_p16 : lw_okq (⟨"IndependenceRows$Graph", "everyPlace", "()I"⟩, 4) := ⟨⟨by decide +kernel, by decide +kernel⟩, List.mem_of_getElem? (i := 20) (by decide +kernel), List.mem_of_getElem? (i := 305) (by decide +kernel), List.mem_of_getElem? (i := 306) (by decide +kernel)⟩
theorem lw_p17 : lw_okq (⟨"IndependenceRows$Walks", "shortest", "(III)I"⟩, 8) := ⟨⟨by decide +kernel, by decide +kernel⟩, List.mem_of_getElem? (i := 70) (by decide +kernel), List.mem_of_getElem? (i := 309) (by decide +kernel), List.mem_of_getElem? (i := 310) (by decide +kernel)⟩
theorem lw_p18 : lw_okq (⟨"IndependenceRows$Walks", "start", "(II)V"⟩, 8) := ⟨⟨by decide +kernel, by decide +kernel⟩, List.mem_of_getElem? (i := 70) (by decide +kernel), List.mem_of_getElem? (i := 313) (by decide +kernel), List.mem_of_getElem? (i := 314) (by decide +kernel)⟩
theorem lw_p19 : lw_okq (⟨"IndependenceRows$Walks", "step", "()V"⟩, 8) := ⟨⟨by decide +kernel, by decide +kernel⟩, List.mem_of_getElem? (i := 70) (by decide +kernel), List.mem_of_getElem? (i := 317) (by decide +kernel), List.mem_of_getElem? (i := 318) (by decide +kernel)⟩
theorem lw_p20 : lw_okq (⟨"IndependenceRows$Tables", "product", "(LIndependenceRows$Graph;I)J"⟩, 3) := ⟨⟨by decide +kernel, by decide +kernel⟩, List.mem_of_getElem? (i := 50) (by decide +kernel), List.mem_of_getElem? (i := 334) (by decide +kernel), List.mem_of_getElem? (i := 335) (by decide +kernel)⟩
theorem lw_p21 : lw_okq (⟨"IndependenceRows$Tables", "factor", "(LIndependenceRows$Graph;II)I"⟩, 3) := ⟨⟨by decide +kernel, by decide +kernel⟩, List.mem_of_getElem? (i := 50) (by decide +kernel), List.mem_of_getElem? (i := 339) (by decide +kernel), List.mem_of_getElem? (i := 340) (by decide +kernel)⟩
theorem lw_p22 : lw_okq (⟨"IndependenceRows", "leastDifference", "(III)I"⟩, 10) := ⟨⟨by decide +kernel, by decide +kernel⟩, List.mem_of_getElem? (i := 12) (by decide +kernel), List.mem_of_getElem? (i := 350) (by decide +kernel), List.mem_of_getElem? (i := 351) (by decide +kernel)⟩
theorem lw_p23 : lw_okq (⟨"IndependenceRows$Margin", "start", "(I)V"⟩, 2) := ⟨⟨by decide +kernel, by decide +kernel⟩, List.mem_of_getElem? (i := 133) (by decide +kernel), List.mem_of_getElem? (i := 354) (by decide +kernel), List.mem_of_getElem? (i := 355) (by decide +kernel)⟩
theorem lw_p24 : lw_okq (⟨"IndependenceRows$Margin", "add", "(IJ)V"⟩, 2) := ⟨⟨by decide +kernel, by decide +kernel⟩, List.mem_of_getElem? (i := 133) (by decide +kernel), List.mem_of_getElem? (i := 361) (by decide +kernel), List.mem_of_getElem? (i := 362) (by decide +kernel)⟩
theorem lw_p25 : lw_okq (⟨"IndependenceRows$Margin", "sum", "(I)J"⟩, 2) := ⟨⟨by decide +kernel, by decide +kernel⟩, List.mem_of_getElem? (i := 133) (by decide +kernel), List.mem_of_getElem? (i := 365) (by decide +kernel), List.mem_of_getElem? (i := 366) (by decide +kernel)⟩
theorem lw_p26 : lw_okq (⟨"IndependenceRows", "fewest", "(III)I"⟩, 10) := ⟨⟨by decide +kernel, by decide +kernel⟩, List.mem_of_getElem? (i := 12) (by decide +kernel), List.mem_of_getElem? (i := 377) (by decide +kernel), List.mem_of_getElem? (i := 378) (by decide +kernel)⟩
theorem lw_p27 : lw_okq (⟨"IndependenceRows$Walks", "reached", "(II)I"⟩, 8) := ⟨⟨by decide +kernel, by decide +kernel⟩, List.mem_of_getElem? (i := 70) (by decide +kernel), List.mem_of_getElem? (i := 382) (by decide +kernel), List.mem_of_getElem? (i := 383) (by decide +kernel)⟩
theorem lw_p28 : lw_okq (⟨"IndependenceRows$Graph", "copy", "(LIndependenceRows$Graph;)V"⟩, 4) := ⟨⟨by decide +kernel, by decide +kernel⟩, List.mem_of_getElem? (i := 20) (by decide +kernel), List.mem_of_getElem? (i := 398) (by decide +kernel), List.mem_of_getElem? (i := 399) (by decide +kernel)⟩
theorem lw_p29 : lw_okq (⟨"IndependenceRows$Graph", "tellsTheSameAs", "(LIndependenceRows$Graph;)Z"⟩, 4) := ⟨⟨by decide +kernel, by decide +kernel⟩, List.mem_of_getElem? (i := 20) (by decide +kernel), List.mem_of_getElem? (i := 409) (by decide +kernel), List.mem_of_getElem? (i := 410) (by decide +kernel)⟩
theorem lw_p30 : lw_okq (⟨"IndependenceRows$Graph", "strangers", "(II)I"⟩, 4) := ⟨⟨by decide +kernel, by decide +kernel⟩, List.mem_of_getElem? (i := 20) (by decide +kernel), List.mem_of_getElem? (i := 414) (by decide +kernel), List.mem_of_getElem? (i := 415) (by decide +kernel)⟩
theorem lw_p31 : lw_okq (⟨"IndependenceRows$Kin", "explore", "(LIndependenceRows$Graph;)V"⟩, 7) := ⟨⟨by decide +kernel, by decide +kernel⟩, List.mem_of_getElem? (i := 101) (by decide +kernel), List.mem_of_getElem? (i := 423) (by decide +kernel), List.mem_of_getElem? (i := 424) (by decide +kernel)⟩
def lw_privs_2 : List (MethodName × Nat) := [(⟨"IndependenceRows$Graph", "everyPlace", "()I"⟩, 4), (⟨"IndependenceRows$Walks", "shortest", "(III)I"⟩, 8), (⟨"IndependenceRows$Walks", "start", "(II)V"⟩, 8), (⟨"IndependenceRows$Walks", "step", "()V"⟩, 8), (⟨"IndependenceRows$Tables", "product", "(LIndependenceRows$Graph;I)J"⟩, 3), (⟨"IndependenceRows$Tables", "factor", "(LIndependenceRows$Graph;II)I"⟩, 3), (⟨"IndependenceRows", "leastDifference", "(III)I"⟩, 10), (⟨"IndependenceRows$Margin", "start", "(I)V"⟩, 2), (⟨"IndependenceRows$Margin", "add", "(IJ)V"⟩, 2), (⟨"IndependenceRows$Margin", "sum", "(I)J"⟩, 2), (⟨"IndependenceRows", "fewest", "(III)I"⟩, 10), (⟨"IndependenceRows$Walks", "reached", "(II)I"⟩, 8), (⟨"IndependenceRows$Graph", "copy", "(LIndependenceRows$Graph;)V"⟩, 4), (⟨"IndependenceRows$Graph", "tellsTheSameAs", "(LIndependenceRows$Graph;)Z"⟩, 4), (⟨"IndependenceRows$Graph", "strangers", "(II)I"⟩, 4), (⟨"IndependenceRows$Kin", "explore", "(LIndependenceRows$Graph;)V"⟩, 7)]
theorem lw_r2 : ∀ q ∈ lw_privs_2, lw_okq q := List.forall_mem_cons.mpr ⟨lw_p16, List.forall_mem_cons.mpr ⟨lw_p17, List.forall_mem_cons.mpr ⟨lw_p18, List.forall_mem_cons.mpr ⟨lw_p19, List.forall_mem_cons.mpr ⟨lw_p20, List.forall_mem_cons.mpr ⟨lw_p21, List.forall_mem_cons.mpr ⟨lw_p22, List.forall_mem_cons.mpr ⟨lw_p23, List.forall_mem_cons.mpr ⟨lw_p24, List.forall_mem_cons.mpr ⟨lw_p25, List.forall_mem_cons.mpr ⟨lw_p26, List.forall_mem_cons.mpr ⟨lw_p27, List.forall_mem_cons.mpr ⟨lw_p28, List.forall_mem_cons.mpr ⟨lw_p29, List.forall_mem_cons.mpr ⟨lw_p30, List.forall_mem_cons.mpr ⟨lw_p31, fun _ h => absurd h List.not_mem_nil⟩⟩⟩⟩⟩⟩⟩⟩⟩⟩⟩⟩⟩⟩⟩⟩
theorem lw_p32 : lw_okq (⟨"IndependenceRows$Kin", "listArcs", "()V"⟩, 7) := ⟨⟨by decide +kernel, by decide +kernel⟩, List.mem_of_getElem? (i := 101) (by decide +kernel), List.mem_of_getElem? (i := 428) (by decide +kernel), List.mem_of_getElem? (i := 429) (by decide +kernel)⟩
theorem lw_p33 : lw_okq (⟨"IndependenceRows$Kin", "direct", "(II)V"⟩, 7) := ⟨⟨by decide +kernel, by decide +kernel⟩, List.mem_of_getElem? (i := 101) (by decide +kernel), List.mem_of_getElem? (i := 434) (by decide +kernel), List.mem_of_getElem? (i := 435) (by decide +kernel)⟩
theorem lw_p34 : lw_okq (⟨"IndependenceRows$Kin", "directOne", "(IIII)V"⟩, 7) := ⟨⟨by decide +kernel, by decide +kernel⟩, List.mem_of_getElem? (i := 101) (by decide +kernel), List.mem_of_getElem? (i := 438) (by decide +kernel), List.mem_of_getElem? (i := 439) (by decide +kernel)⟩
theorem lw_p35 : lw_okq (⟨"IndependenceRows$Kin", "meetsAsFirst", "(II)Z"⟩, 7) := ⟨⟨by decide +kernel, by decide +kernel⟩, List.mem_of_getElem? (i := 101) (by decide +kernel), List.mem_of_getElem? (i := 442) (by decide +kernel), List.mem_of_getElem? (i := 443) (by decide +kernel)⟩
theorem lw_p36 : lw_okq (⟨"IndependenceRows$Kin", "isTurned", "(II)Z"⟩, 7) := ⟨⟨by decide +kernel, by decide +kernel⟩, List.mem_of_getElem? (i := 101) (by decide +kernel), List.mem_of_getElem? (i := 450) (by decide +kernel), List.mem_of_getElem? (i := 451) (by decide +kernel)⟩
theorem lw_p37 : lw_okq (⟨"IndependenceRowsModel", "begin", "()V"⟩, 23) := ⟨⟨by decide +kernel, by decide +kernel⟩, List.mem_of_getElem? (i := 462) (by decide +kernel), List.mem_of_getElem? (i := 468) (by decide +kernel), List.mem_of_getElem? (i := 469) (by decide +kernel)⟩
theorem lw_p38 : lw_okq (⟨"IndependenceRowsModel", "evenOdds", "(I)V"⟩, 23) := ⟨⟨by decide +kernel, by decide +kernel⟩, List.mem_of_getElem? (i := 462) (by decide +kernel), List.mem_of_getElem? (i := 551) (by decide +kernel), List.mem_of_getElem? (i := 552) (by decide +kernel)⟩
theorem lw_p39 : lw_okq (⟨"IndependenceRowsModel", "isPlace", "(I)Z"⟩, 23) := ⟨⟨by decide +kernel, by decide +kernel⟩, List.mem_of_getElem? (i := 462) (by decide +kernel), List.mem_of_getElem? (i := 559) (by decide +kernel), List.mem_of_getElem? (i := 560) (by decide +kernel)⟩
theorem lw_p40 : lw_okq (⟨"IndependenceRowsModel", "aboveOf", "([II)I"⟩, 23) := ⟨⟨by decide +kernel, by decide +kernel⟩, List.mem_of_getElem? (i := 462) (by decide +kernel), List.mem_of_getElem? (i := 563) (by decide +kernel), List.mem_of_getElem? (i := 564) (by decide +kernel)⟩
theorem lw_p41 : lw_okq (⟨"IndependenceRowsModel", "isArc", "(II)Z"⟩, 23) := ⟨⟨by decide +kernel, by decide +kernel⟩, List.mem_of_getElem? (i := 462) (by decide +kernel), List.mem_of_getElem? (i := 571) (by decide +kernel), List.mem_of_getElem? (i := 572) (by decide +kernel)⟩
theorem lw_p42 : lw_okq (⟨"IndependenceRowsModel", "isRow", "(II)Z"⟩, 23) := ⟨⟨by decide +kernel, by decide +kernel⟩, List.mem_of_getElem? (i := 462) (by decide +kernel), List.mem_of_getElem? (i := 579) (by decide +kernel), List.mem_of_getElem? (i := 580) (by decide +kernel)⟩
theorem lw_p43 : lw_okq (⟨"IndependenceRowsModel", "countArcs", "(I)V"⟩, 23) := ⟨⟨by decide +kernel, by decide +kernel⟩, List.mem_of_getElem? (i := 462) (by decide +kernel), List.mem_of_getElem? (i := 598) (by decide +kernel), List.mem_of_getElem? (i := 599) (by decide +kernel)⟩
theorem lw_p44 : lw_okq (⟨"IndependenceRowsModel", "belowOf", "(I)I"⟩, 23) := ⟨⟨by decide +kernel, by decide +kernel⟩, List.mem_of_getElem? (i := 462) (by decide +kernel), List.mem_of_getElem? (i := 602) (by decide +kernel), List.mem_of_getElem? (i := 603) (by decide +kernel)⟩
theorem lw_p45 : lw_okq (⟨"IndependenceRowsModel", "isAsked", "(III)Z"⟩, 23) := ⟨⟨by decide +kernel, by decide +kernel⟩, List.mem_of_getElem? (i := 462) (by decide +kernel), List.mem_of_getElem? (i := 610) (by decide +kernel), List.mem_of_getElem? (i := 611) (by decide +kernel)⟩
theorem lw_p46 : lw_okq (⟨"IndependenceRowsModel", "isSet", "(I)Z"⟩, 23) := ⟨⟨by decide +kernel, by decide +kernel⟩, List.mem_of_getElem? (i := 462) (by decide +kernel), List.mem_of_getElem? (i := 614) (by decide +kernel), List.mem_of_getElem? (i := 615) (by decide +kernel)⟩
theorem lw_p47 : lw_okq (⟨"IndependenceRowsModel", "isSeparated", "([IIII)Z"⟩, 23) := ⟨⟨by decide +kernel, by decide +kernel⟩, List.mem_of_getElem? (i := 462) (by decide +kernel), List.mem_of_getElem? (i := 618) (by decide +kernel), List.mem_of_getElem? (i := 619) (by decide +kernel)⟩
def lw_privs_3 : List (MethodName × Nat) := [(⟨"IndependenceRows$Kin", "listArcs", "()V"⟩, 7), (⟨"IndependenceRows$Kin", "direct", "(II)V"⟩, 7), (⟨"IndependenceRows$Kin", "directOne", "(IIII)V"⟩, 7), (⟨"IndependenceRows$Kin", "meetsAsFirst", "(II)Z"⟩, 7), (⟨"IndependenceRows$Kin", "isTurned", "(II)Z"⟩, 7), (⟨"IndependenceRowsModel", "begin", "()V"⟩, 23), (⟨"IndependenceRowsModel", "evenOdds", "(I)V"⟩, 23), (⟨"IndependenceRowsModel", "isPlace", "(I)Z"⟩, 23), (⟨"IndependenceRowsModel", "aboveOf", "([II)I"⟩, 23), (⟨"IndependenceRowsModel", "isArc", "(II)Z"⟩, 23), (⟨"IndependenceRowsModel", "isRow", "(II)Z"⟩, 23), (⟨"IndependenceRowsModel", "countArcs", "(I)V"⟩, 23), (⟨"IndependenceRowsModel", "belowOf", "(I)I"⟩, 23), (⟨"IndependenceRowsModel", "isAsked", "(III)Z"⟩, 23), (⟨"IndependenceRowsModel", "isSet", "(I)Z"⟩, 23), (⟨"IndependenceRowsModel", "isSeparated", "([IIII)Z"⟩, 23)]
theorem lw_r3 : ∀ q ∈ lw_privs_3, lw_okq q := List.forall_mem_cons.mpr ⟨lw_p32, List.forall_mem_cons.mpr ⟨lw_p33, List.forall_mem_cons.mpr ⟨lw_p34, List.forall_mem_cons.mpr ⟨lw_p35, List.forall_mem_cons.mpr ⟨lw_p36, List.forall_mem_cons.mpr ⟨lw_p37, List.forall_mem_cons.mpr ⟨lw_p38, List.forall_mem_cons.mpr ⟨lw_p39, List.forall_mem_cons.mpr ⟨lw_p40, List.forall_mem_cons.mpr ⟨lw_p41, List.forall_mem_cons.mpr ⟨lw_p42, List.forall_mem_cons.mpr ⟨lw_p43, List.forall_mem_cons.mpr ⟨lw_p44, List.forall_mem_cons.mpr ⟨lw_p45, List.forall_mem_cons.mpr ⟨lw_p46, List.forall_mem_cons.mpr ⟨lw_p47, fun _ h => absurd h List.not_mem_nil⟩⟩⟩⟩⟩⟩⟩⟩⟩⟩⟩⟩⟩⟩⟩⟩
theorem lw_p48 : lw_okq (⟨"IndependenceRowsModel", "children2", "(II)I"⟩, 23) := ⟨⟨by decide +kernel, by decide +kernel⟩, List.mem_of_getElem? (i := 462) (by decide +kernel), List.mem_of_getElem? (i := 626) (by decide +kernel), List.mem_of_getElem? (i := 627) (by decide +kernel)⟩
theorem lw_p49 : lw_okq (⟨"IndependenceRowsModel", "weigh", "()V"⟩, 23) := ⟨⟨by decide +kernel, by decide +kernel⟩, List.mem_of_getElem? (i := 462) (by decide +kernel), List.mem_of_getElem? (i := 635) (by decide +kernel), List.mem_of_getElem? (i := 636) (by decide +kernel)⟩
theorem lw_p50 : lw_okq (⟨"IndependenceRowsModel", "hangs", "(III)I"⟩, 23) := ⟨⟨by decide +kernel, by decide +kernel⟩, List.mem_of_getElem? (i := 462) (by decide +kernel), List.mem_of_getElem? (i := 644) (by decide +kernel), List.mem_of_getElem? (i := 645) (by decide +kernel)⟩
theorem lw_p51 : lw_okq (⟨"IndependenceRowsModel", "learn", "()V"⟩, 23) := ⟨⟨by decide +kernel, by decide +kernel⟩, List.mem_of_getElem? (i := 462) (by decide +kernel), List.mem_of_getElem? (i := 672) (by decide +kernel), List.mem_of_getElem? (i := 673) (by decide +kernel)⟩
theorem lw_p52 : lw_okq (⟨"IndependenceRowsModel", "tellsAlike", "([I)Z"⟩, 23) := ⟨⟨by decide +kernel, by decide +kernel⟩, List.mem_of_getElem? (i := 462) (by decide +kernel), List.mem_of_getElem? (i := 676) (by decide +kernel), List.mem_of_getElem? (i := 677) (by decide +kernel)⟩
theorem lw_p53 : lw_okq (⟨"IndependenceRowsModel", "countFamily", "()V"⟩, 23) := ⟨⟨by decide +kernel, by decide +kernel⟩, List.mem_of_getElem? (i := 462) (by decide +kernel), List.mem_of_getElem? (i := 684) (by decide +kernel), List.mem_of_getElem? (i := 685) (by decide +kernel)⟩
theorem lw_p54 : lw_okq (⟨"IndependenceRowsModel", "listArcs", "()I"⟩, 23) := ⟨⟨by decide +kernel, by decide +kernel⟩, List.mem_of_getElem? (i := 462) (by decide +kernel), List.mem_of_getElem? (i := 688) (by decide +kernel), List.mem_of_getElem? (i := 689) (by decide +kernel)⟩
theorem lw_p55 : lw_okq (⟨"IndependenceRowsModel", "hasNoRing", "()Z"⟩, 23) := ⟨⟨by decide +kernel, by decide +kernel⟩, List.mem_of_getElem? (i := 462) (by decide +kernel), List.mem_of_getElem? (i := 692) (by decide +kernel), List.mem_of_getElem? (i := 693) (by decide +kernel)⟩
def lw_privs_4 : List (MethodName × Nat) := [(⟨"IndependenceRowsModel", "children2", "(II)I"⟩, 23), (⟨"IndependenceRowsModel", "weigh", "()V"⟩, 23), (⟨"IndependenceRowsModel", "hangs", "(III)I"⟩, 23), (⟨"IndependenceRowsModel", "learn", "()V"⟩, 23), (⟨"IndependenceRowsModel", "tellsAlike", "([I)Z"⟩, 23), (⟨"IndependenceRowsModel", "countFamily", "()V"⟩, 23), (⟨"IndependenceRowsModel", "listArcs", "()I"⟩, 23), (⟨"IndependenceRowsModel", "hasNoRing", "()Z"⟩, 23)]
theorem lw_r4 : ∀ q ∈ lw_privs_4, lw_okq q := List.forall_mem_cons.mpr ⟨lw_p48, List.forall_mem_cons.mpr ⟨lw_p49, List.forall_mem_cons.mpr ⟨lw_p50, List.forall_mem_cons.mpr ⟨lw_p51, List.forall_mem_cons.mpr ⟨lw_p52, List.forall_mem_cons.mpr ⟨lw_p53, List.forall_mem_cons.mpr ⟨lw_p54, List.forall_mem_cons.mpr ⟨lw_p55, fun _ h => absurd h List.not_mem_nil⟩⟩⟩⟩⟩⟩⟩⟩
def lw_privs : List (MethodName × Nat) := lw_privs_1 ++ (lw_privs_2 ++ (lw_privs_3 ++ (lw_privs_4)))
def lw_tbl : List Cond := k2_sels lw_privs ++ tables_1
theorem lw_privs_ok : ∀ q ∈ lw_privs, lw_okq q := by
  show ∀ q ∈ lw_privs_1 ++ (lw_privs_2 ++ (lw_privs_3 ++ (lw_privs_4))), lw_okq q
  exact List.forall_mem_append.mpr ⟨lw_r1, List.forall_mem_append.mpr ⟨lw_r2, List.forall_mem_append.mpr ⟨lw_r3, lw_r4⟩⟩⟩
/-! ===== BEGIN new T[n][m]: the outer array a place, the inner ones among the pooled ===== -/
/-- f, but v at every address of l -/
def vr_up {α : Type} (f : Nat → α) (l : List Nat) (v : α) : Nat → α := fun a => if a ∈ l then v else f a
theorem vr_up_in {α : Type} {f : Nat → α} {l : List Nat} {v : α} {a : Nat} (h : a ∈ l) : vr_up f l v a = v := if_pos h
theorem vr_up_ne {α : Type} {f : Nat → α} {l : List Nat} {v : α} {a : Nat} (h : a ∉ l) : vr_up f l v a = f a := if_neg h
theorem vr_rows {L l : List Nat} {f : Nat → va_E} {e : va_E} (h : ∀ a, a ∈ l → a ∉ L) : va_pl L f ++ l.map (fun a => (a, e)) = va_pl (L ++ l) (vr_up f l e) := by
  unfold va_pl
  rw [List.map_append]
  congr 1
  · apply List.map_congr_left
    intro a ha
    rw [vr_up_ne (fun q => h a q ha)]
  · apply List.map_congr_left
    intro a ha
    rw [vr_up_in ha]
theorem vr_lay {X rows : va_W} {x : Nat × va_E} {pl : va_W} {D : va_G} {cl : List vw_C} {H : Heap} (hP : va_P D cl (((X ++ pl) ++ [x]) ++ rows) H) : va_P D cl ((X ++ [x]) ++ (pl ++ rows)) H := by
  rw [List.append_assoc (X ++ pl)] at hP
  have h := va_P.swap hP
  rw [← List.append_assoc X] at h
  have h2 := va_P.swap h
  rw [List.append_assoc (X ++ [x])] at h2
  exact h2
theorem vr_layD {X rows : va_W} {x : Nat × va_E} {pl : va_W} {A : Nat → Prop} (hD : va_D A (((X ++ pl) ++ [x]) ++ rows)) : va_D A ((X ++ [x]) ++ (pl ++ rows)) := by
  rw [List.append_assoc (X ++ pl)] at hD
  have h := va_D.swap hD
  rw [← List.append_assoc X] at h
  have h2 := va_D.swap h
  rw [List.append_assoc (X ++ [x])] at h2
  exact h2
theorem vr_outer (c : ClassId) (N h0 : Nat) : ∀ i : Nat, Jvm.Free.Multi.outerC c N h0 i = arrV c N (fun j => va_rf (if j < i then some (h0 + 1 + j) else none))
  | 0 => by
    show ({ cls := c, slots := Array.replicate N .null, vm := .none } : Cell) = _
    rw [arrV_new]
    refine congrArg (arrV c N) (funext fun j => ?_)
    simp [va_rf]
  | i + 1 => by
    show (Jvm.Free.Multi.outerC c N h0 i).setSlot i (.ref (h0 + 1 + i)) = _
    rw [vr_outer c N h0 i, arrV_store]
    refine congrArg (arrV c N) (funext fun j => ?_)
    by_cases e : j = i
    · subst e
      simp [updV, va_rf]
    · by_cases h : j < i
      · simp [updV, e, h, Nat.lt_succ_of_lt h]
      · simp [updV, e, h, show ¬ j < i + 1 by omega]
section VGM
variable {p : Program} {l : Launch} {e : Env} {R : Room} {s : State} {m : MethodId} {args : Array Value} {below : List Frame} {meth : Method} {c : Code} {H : Heap} {locs : List Loc} {cells slots : Nat} {Q : State → Prop}
variable {cc : ByteArray} {pc : Nat} {ls : Array Slot} {rest : List Value} {D : va_G} {cl : List vw_C} {A : Nat → Prop} {a : Nat} {tys : List (ClassId × FieldType)} {ws : va_W} {H0 : Heap}
theorem va_mna {X : va_W} {L : List Nat} {f : Nat → va_E} {cc : ByteArray} (hexec : p.tables.exec = Jvm.exec) (hb : c.code = cc) {own : String} {index : Nat} {ty : FieldType} {cy : ClassId} (hown : s.vm.findClass own = some m.cls) (hclink : (Cond.classLink own index ("[" ++ (FieldType.array ty).toString)).before args s = true) (hover : (Cond.arrayOver (.array ty)).before args s = true) (harr : (Cond.arrayClass ty).before args s = true) (hcy : s.vm.findClass (FieldType.array ty).toString = some cy)
    (hK : va_K D cl tys s) (hP : va_P D cl (X ++ va_pl L f) H) (hD : va_D A (X ++ va_pl L f)) (hS : va_S A H0 H locs) (hA : ∀ q, H0.size ≤ q → A q) {n k : Int32} {N' K' : Nat} {z : vp_A} (hn : ¬ n < 0) (hk : ¬ k < 0) (hN : n.toNatClampNeg = N') (hM : k.toNatClampNeg = K')
    (hb1 : N' * 4 ≤ 536870912) (hb2 : K' * componentBytes ty ≤ 536870912) (hb3 : K' ≤ 536870912) (hdf : fits ty (defaultValue ty) = true) (hdd : (defaultValue ty).isDefault = true) (hcells : cells + (1 + N') ≤ R.cells) (hslots : slots + (N' + N' * K') ≤ R.slots) (hz : ∀ c : ClassId, Jvm.Free.Multi.innerC c K' (defaultValue ty) = vp_cell c z) (hdg : decode cc pc = .ok (.multianewarray index 2, 4))
    (kk : ∀ (q : Nat) (r : Nat → Nat) (cA : ClassId) (H1 : Heap), (∀ i j : Nat, i < N' → j < N' → r i = r j → i = j) → (∀ i : Nat, i < N' → r i ∉ L) → va_K D cl (tys ++ [(cA, .array ty)]) s →
      va_P D cl ((X ++ [(q, .inl (cA, N', .inr (.inr (.inr (.inr (fun i => if i < N' then some (r i) else none))))))]) ++ va_pl (L ++ (List.range N').map r) (vr_up f ((List.range N').map r) (.inl (cy, z)))) H1 → va_D A ((X ++ [(q, .inl (cA, N', .inr (.inr (.inr (.inr (fun i => if i < N' then some (r i) else none))))))]) ++ va_pl (L ++ (List.range N').map r) (vr_up f ((List.range N').map r) (.inl (cy, z)))) → va_S A H0 H1 locs →
      W p l e R s m args below meth c H1 locs (cells + 1 + N') (slots + N' + N' * K') Q (F0 m (pc + 4) ls (.ref q :: rest))) : W p l e R s m args below meth c H locs cells slots Q (F0 m pc ls (.int k :: .int n :: rest)) := by
  subst hN
  subst hM
  intro T hT Xs
  obtain ⟨vm₁, cA, comp, -, fA, fC, hO, -, X', step⟩ := Xs.multianewarray2F hexec hown hclink hover harr (g := F0 m pc ls (.int k :: .int n :: rest)) rfl (by rw [hb]; exact hdg) rfl hn hk hb1 hb2 hb3 hdf hdd hcells hslots
  have ec : some cy = some comp := hcy.symm.trans fC
  cases ec
  generalize hF : Jvm.Free.Multi.fill (T.setVm vm₁) cA cy n.toNatClampNeg k.toNatClampNeg (defaultValue ty) n.toNatClampNeg = F at X' step
  have hTh : (T.setVm vm₁).heap = H := hT
  obtain ⟨f1, f2, -, -⟩ := Jvm.Free.Multi.fill_facts (T.setVm vm₁) cA cy n.toNatClampNeg k.toNatClampNeg (defaultValue ty) n.toNatClampNeg
  rw [hF, hTh] at f1 f2
  have hold : ∀ x : Nat, x < H.size → F.heap[x]? = H[x]? := fun x hx => by
    have := Jvm.Free.Multi.fill_old (T.setVm vm₁) cA cy n.toNatClampNeg k.toNatClampNeg (defaultValue ty) (a := x) (by rw [hTh]; exact hx) n.toNatClampNeg
    rw [hF, hTh] at this
    exact this
  have hrow : ∀ j : Nat, j < n.toNatClampNeg → F.heap[H.size + 1 + j]? = some (vp_cell cy z) := fun j hj => by
    have := Jvm.Free.Multi.fill_inner (T.setVm vm₁) cA cy n.toNatClampNeg k.toNatClampNeg (defaultValue ty) n.toNatClampNeg j hj
    rw [hF, hTh, hz] at this
    exact this
  have hout : Jvm.Free.Multi.outerC cA n.toNatClampNeg H.size n.toNatClampNeg = vp_cell cA (n.toNatClampNeg, .inr (.inr (.inr (.inr (fun i => if i < n.toNatClampNeg then some (H.size + 1 + i) else none))))) := by
    rw [vp_cell_q]
    exact vr_outer cA n.toNatClampNeg H.size n.toNatClampNeg
  rw [hout] at f2
  have hlt : ∀ a, a ∈ L → a < H.size := fun a ha => by
    obtain ⟨k9, hk9⟩ := va_pl_get (X := X) (f := f) ha
    exact (hP k9 _ hk9).lt
  have hnl : ∀ i : Nat, i < n.toNatClampNeg → H.size + 1 + i ∉ L := fun i _ h => by
    have := hlt _ h
    omega
  have hnm : ∀ a, a ∈ (List.range n.toNatClampNeg).map (fun i => H.size + 1 + i) → a ∉ L := fun a ha h => by
    obtain ⟨i, -, rfl⟩ := List.mem_map.mp ha
    have := hlt _ h
    omega
  have hP0 : va_P D cl (X ++ va_pl L f) F.heap := hP.kept (fun k9 x hx => hold x.1 ((hP k9 x hx).lt))
  have hP1 : va_P D cl ((X ++ va_pl L f) ++ [(H.size, .inl (cA, n.toNatClampNeg, .inr (.inr (.inr (.inr (fun i => if i < n.toNatClampNeg then some (H.size + 1 + i) else none))))))]) F.heap := hP0.app (fun k9 x hx => by
    have h0 : k9 < 1 := (List.getElem?_eq_some_iff.mp hx).1
    rw [show k9 = 0 by omega] at hx
    cases hx
    exact f2)
  have hP2 : va_P D cl (((X ++ va_pl L f) ++ [(H.size, .inl (cA, n.toNatClampNeg, .inr (.inr (.inr (.inr (fun i => if i < n.toNatClampNeg then some (H.size + 1 + i) else none))))))]) ++ ((List.range n.toNatClampNeg).map (fun i => H.size + 1 + i)).map (fun a => (a, .inl (cy, z)))) F.heap := hP1.app (fun k9 x hx => by
    obtain ⟨a, ha, rfl⟩ := List.mem_map.mp (List.mem_of_getElem? hx)
    obtain ⟨i, hi, rfl⟩ := List.mem_map.mp ha
    exact hrow i (List.mem_range.mp hi))
  have hD2 : va_D A (((X ++ va_pl L f) ++ [(H.size, .inl (cA, n.toNatClampNeg, .inr (.inr (.inr (.inr (fun i => if i < n.toNatClampNeg then some (H.size + 1 + i) else none))))))]) ++ ((List.range n.toNatClampNeg).map (fun i => H.size + 1 + i)).map (fun a => (a, .inl (cy, z)))) := by
    have hD1 := hD.push (e := .inl (cA, n.toNatClampNeg, .inr (.inr (.inr (.inr (fun i => if i < n.toNatClampNeg then some (H.size + 1 + i) else none)))))) hP rfl (hA _ hS.1)
    generalize hW1 : (X ++ va_pl L f) ++ [(H.size, .inl (cA, n.toNatClampNeg, .inr (.inr (.inr (.inr (fun i => if i < n.toNatClampNeg then some (H.size + 1 + i) else none))))))] = W1 at hD1 hP1 ⊢
    have hle : ∀ (k9 : Nat) (x : Nat × va_E), W1[k9]? = some x → x.1 ≤ H.size := fun k9 x hx => by
      rw [← hW1] at hx
      by_cases hl : k9 < (X ++ va_pl L f).length
      · rw [List.getElem?_append_left hl] at hx
        exact Nat.le_of_lt ((hP k9 x hx).lt)
      · rw [List.getElem?_append_right (by omega)] at hx
        have h0 : k9 - (X ++ va_pl L f).length < 1 := (List.getElem?_eq_some_iff.mp hx).1
        rw [show k9 - (X ++ va_pl L f).length = 0 by omega] at hx
        cases hx
        exact Nat.le_refl _
    have hr : ∀ (k9 : Nat) (x : Nat × va_E), (((List.range n.toNatClampNeg).map (fun i => H.size + 1 + i)).map (fun a => ((a, .inl (cy, z)) : Nat × va_E)))[k9]? = some x → x.1 = H.size + 1 + k9 := fun k9 x hx => by
      rw [List.getElem?_map, List.getElem?_map] at hx
      by_cases h9 : k9 < n.toNatClampNeg
      · rw [List.getElem?_range h9] at hx
        cases hx
        rfl
      · have hn0 : (List.range n.toNatClampNeg)[k9]? = none := List.getElem?_eq_none (by rw [List.length_range]; omega)
        rw [hn0] at hx
        cases hx
    refine ⟨fun i j x y hi hj hxy => ?_, fun k9 x hx => ?_⟩
    · by_cases h1 : i < W1.length <;> by_cases h2 : j < W1.length
      · rw [List.getElem?_append_left h1] at hi
        rw [List.getElem?_append_left h2] at hj
        exact hD1.1 i j x y hi hj hxy
      · rw [List.getElem?_append_left h1] at hi
        rw [List.getElem?_append_right (by omega)] at hj
        have := hle _ _ hi
        have := hr _ _ hj
        omega
      · rw [List.getElem?_append_right (by omega)] at hi
        rw [List.getElem?_append_left h2] at hj
        have := hle _ _ hj
        have := hr _ _ hi
        omega
      · rw [List.getElem?_append_right (by omega)] at hi hj
        have := hr _ _ hi
        have := hr _ _ hj
        omega
    · by_cases h1 : k9 < W1.length
      · rw [List.getElem?_append_left h1] at hx
        exact hD1.2 k9 x hx
      · rw [List.getElem?_append_right (by omega)] at hx
        have := hr _ _ hx
        exact hA _ (by have := hS.1; omega)
  have hAr : ArrOfT s cA (.array ty) := fun N9 z9 => by
    obtain ⟨-, k9, hk9, cm9, hkk9⟩ := (hO 0 0 0).1
    exact ⟨(fun q hq => by cases hq), k9, hk9, cm9, hkk9⟩
  have hK2 : va_K D cl (tys ++ [(cA, .array ty)]) s := ⟨hK.1, fun k9 x hx => by
    by_cases hl : k9 < tys.length
    · rw [List.getElem?_append_left hl] at hx
      exact hK.2 k9 x hx
    · rw [List.getElem?_append_right (by omega)] at hx
      have h0 : k9 - tys.length < 1 := (List.getElem?_eq_some_iff.mp hx).1
      rw [show k9 - tys.length = 0 by omega] at hx
      cases hx
      exact ⟨hAr, fA⟩⟩
  obtain ⟨t, a1, b1⟩ := kk H.size (fun i => H.size + 1 + i) cA F.heap (fun i j _ _ h => by have h9 : H.size + 1 + i = H.size + 1 + j := h; omega) hnl hK2 (by rw [← vr_rows hnm]; exact vr_lay hP2) (by rw [← vr_rows hnm]; exact vr_layD hD2) ⟨by rw [f1]; have := hS.1; omega, fun x h1 h2 => (hold x (Nat.lt_of_lt_of_le h1 hS.1)).trans (hS.2.1 x h1 h2), hS.2.2⟩ F rfl X'
  refine ⟨t, step t ?_, b1⟩
  have e : T.heap.size = H.size := by rw [hT]
  rw [e]
  exact a1
end VGM
/-! ===== END ===== -/
/-! NAMES: written by wip/whole/tools/names.py -/
theorem am_tb1 {w : Cond} (i : Nat) (h : tables_1_1[i]? = some w) : w ∈ lw_tbl := List.mem_append_right _ (List.mem_append_left _ (List.mem_of_getElem? h))
theorem am_tb2 {w : Cond} (i : Nat) (h : tables_1_2[i]? = some w) : w ∈ lw_tbl := List.mem_append_right _ (List.mem_append_right _ (List.mem_append_left _ (List.mem_of_getElem? h)))
theorem am_tb3 {w : Cond} (i : Nat) (h : tables_1_3[i]? = some w) : w ∈ lw_tbl := List.mem_append_right _ (List.mem_append_right _ (List.mem_append_right _ (List.mem_of_getElem? h)))
theorem am_se (q : MethodName × Nat) (h : q ∈ lw_privs) : Cond.selects q.1.cls q.1 q.1 ∈ lw_tbl := List.mem_append_left _ (List.mem_map.mpr ⟨q, h, rfl⟩)
def R_X : String := "IndependenceRows"
def T_X : u_T := fun k => match k with
  | 0 => ("IndependenceRows", "graph", "LIndependenceRows$Graph;", true)
  | 1 => ("IndependenceRows", "kept", "LIndependenceRows$Graph;", true)
  | 2 => ("IndependenceRows", "anyKept", "Z", false)
  | 3 => ("IndependenceRows", "tables", "LIndependenceRows$Tables;", true)
  | 4 => ("IndependenceRows", "walks", "LIndependenceRows$Walks;", true)
  | 5 => ("IndependenceRows", "kin", "LIndependenceRows$Kin;", true)
  | 6 => ("IndependenceRows", "ofAll", "LIndependenceRows$Margin;", true)
  | 7 => ("IndependenceRows", "ofGiven", "LIndependenceRows$Margin;", true)
  | 8 => ("IndependenceRows", "ofOne", "LIndependenceRows$Margin;", true)
  | _ => ("IndependenceRows", "ofOther", "LIndependenceRows$Margin;", true)
def ty_X : Nat → FieldType := fun k => match k with
  | 0 => .object "IndependenceRows$Graph"
  | 1 => .object "IndependenceRows$Graph"
  | 2 => .boolean
  | 3 => .object "IndependenceRows$Tables"
  | 4 => .object "IndependenceRows$Walks"
  | 5 => .object "IndependenceRows$Kin"
  | 6 => .object "IndependenceRows$Margin"
  | 7 => .object "IndependenceRows$Margin"
  | 8 => .object "IndependenceRows$Margin"
  | _ => .object "IndependenceRows$Margin"
theorem nm_X : ∀ a, a < 10 → ∀ b, b < 10 → a ≠ b → (T_X a).2.1 ≠ (T_X b).2.1 := by decide +kernel
theorem tok_X : ∀ k, k < 10 → parseFieldDescriptor (T_X k).2.2.1 = some (ty_X k) := by decide +kernel
def R_G : String := "IndependenceRows$Graph"
def T_G : u_T := fun k => match k with
  | 0 => ("IndependenceRows$Graph", "places", "I", false)
  | 1 => ("IndependenceRows$Graph", "arcs", "I", false)
  | 2 => ("IndependenceRows$Graph", "parents", "[I", true)
  | _ => ("IndependenceRows$Graph", "children", "[I", true)
def ty_G : Nat → FieldType := fun k => match k with
  | 0 => .int
  | 1 => .int
  | 2 => .array .int
  | _ => .array .int
theorem nm_G : ∀ a, a < 4 → ∀ b, b < 4 → a ≠ b → (T_G a).2.1 ≠ (T_G b).2.1 := by decide +kernel
theorem tok_G : ∀ k, k < 4 → parseFieldDescriptor (T_G k).2.2.1 = some (ty_G k) := by decide +kernel
def R_K : String := "IndependenceRows$Kin"
def T_K : u_T := fun k => match k with
  | 0 => ("IndependenceRows$Kin", "first", "LIndependenceRows$Graph;", true)
  | 1 => ("IndependenceRows$Kin", "arcs", "I", false)
  | 2 => ("IndependenceRows$Kin", "from", "[I", true)
  | 3 => ("IndependenceRows$Kin", "to", "[I", true)
  | 4 => ("IndependenceRows$Kin", "parents", "[I", true)
  | 5 => ("IndependenceRows$Kin", "found", "I", false)
  | _ => ("IndependenceRows$Kin", "turned", "I", false)
def ty_K : Nat → FieldType := fun k => match k with
  | 0 => .object "IndependenceRows$Graph"
  | 1 => .int
  | 2 => .array .int
  | 3 => .array .int
  | 4 => .array .int
  | 5 => .int
  | _ => .int
theorem nm_K : ∀ a, a < 7 → ∀ b, b < 7 → a ≠ b → (T_K a).2.1 ≠ (T_K b).2.1 := by decide +kernel
theorem tok_K : ∀ k, k < 7 → parseFieldDescriptor (T_K k).2.2.1 = some (ty_K k) := by decide +kernel
def R_N : String := "IndependenceRows$Margin"
def T_N : u_T := fun k => match k with
  | 0 => ("IndependenceRows$Margin", "set", "I", false)
  | _ => ("IndependenceRows$Margin", "sums", "[J", true)
def ty_N : Nat → FieldType := fun k => match k with
  | 0 => .int
  | _ => .array .long
theorem nm_N : ∀ a, a < 2 → ∀ b, b < 2 → a ≠ b → (T_N a).2.1 ≠ (T_N b).2.1 := by decide +kernel
theorem tok_N : ∀ k, k < 2 → parseFieldDescriptor (T_N k).2.2.1 = some (ty_N k) := by decide +kernel
def R_T : String := "IndependenceRows$Tables"
def T_T : u_T := fun k => match k with
  | 0 => ("IndependenceRows$Tables", "eighths", "[[I", true)
  | 1 => ("IndependenceRows$Tables", "held", "I", false)
  | _ => ("IndependenceRows$Tables", "heldValues", "I", false)
def ty_T : Nat → FieldType := fun k => match k with
  | 0 => .array (.array .int)
  | 1 => .int
  | _ => .int
theorem nm_T : ∀ a, a < 3 → ∀ b, b < 3 → a ≠ b → (T_T a).2.1 ≠ (T_T b).2.1 := by decide +kernel
theorem tok_T : ∀ k, k < 3 → parseFieldDescriptor (T_T k).2.2.1 = some (ty_T k) := by decide +kernel
def R_V : String := "IndependenceRows$Walks"
def T_V : u_T := fun k => match k with
  | 0 => ("IndependenceRows$Walks", "into", "[I", true)
  | 1 => ("IndependenceRows$Walks", "outOf", "[I", true)
  | 2 => ("IndependenceRows$Walks", "given", "I", false)
  | 3 => ("IndependenceRows$Walks", "meetable", "I", false)
  | 4 => ("IndependenceRows$Walks", "nowAlong", "I", false)
  | 5 => ("IndependenceRows$Walks", "nowAgainst", "I", false)
  | 6 => ("IndependenceRows$Walks", "seenAlong", "I", false)
  | _ => ("IndependenceRows$Walks", "seenAgainst", "I", false)
def ty_V : Nat → FieldType := fun k => match k with
  | 0 => .array .int
  | 1 => .array .int
  | 2 => .int
  | 3 => .int
  | 4 => .int
  | 5 => .int
  | 6 => .int
  | _ => .int
theorem nm_V : ∀ a, a < 8 → ∀ b, b < 8 → a ≠ b → (T_V a).2.1 ≠ (T_V b).2.1 := by decide +kernel
theorem tok_V : ∀ k, k < 8 → parseFieldDescriptor (T_V k).2.2.1 = some (ty_V k) := by decide +kernel
def R_Y : String := "IndependenceRowsModel"
def T_Y : u_T := fun k => match k with
  | 0 => ("IndependenceRowsModel", "places", "I", false)
  | 1 => ("IndependenceRowsModel", "arcs", "I", false)
  | 2 => ("IndependenceRowsModel", "parents", "[I", true)
  | 3 => ("IndependenceRowsModel", "held", "[I", true)
  | 4 => ("IndependenceRowsModel", "odds", "[I", true)
  | 5 => ("IndependenceRowsModel", "isKept", "Z", false)
  | 6 => ("IndependenceRowsModel", "keptPlaces", "I", false)
  | 7 => ("IndependenceRowsModel", "kept", "[I", true)
  | 8 => ("IndependenceRowsModel", "isCounted", "Z", false)
  | 9 => ("IndependenceRowsModel", "familySize", "I", false)
  | 10 => ("IndependenceRowsModel", "settledMask", "I", false)
  | 11 => ("IndependenceRowsModel", "counted", "[I", true)
  | 12 => ("IndependenceRowsModel", "children", "[I", true)
  | 13 => ("IndependenceRowsModel", "near", "[I", true)
  | 14 => ("IndependenceRowsModel", "layer", "[I", true)
  | 15 => ("IndependenceRowsModel", "nextLayer", "[I", true)
  | 16 => ("IndependenceRowsModel", "met", "[I", true)
  | 17 => ("IndependenceRowsModel", "weights", "[J", true)
  | 18 => ("IndependenceRowsModel", "sums", "[J", true)
  | 19 => ("IndependenceRowsModel", "separates", "[Z", true)
  | 20 => ("IndependenceRowsModel", "arcFrom", "[I", true)
  | 21 => ("IndependenceRowsModel", "arcTo", "[I", true)
  | _ => ("IndependenceRowsModel", "turned", "[I", true)
def ty_Y : Nat → FieldType := fun k => match k with
  | 0 => .int
  | 1 => .int
  | 2 => .array .int
  | 3 => .array .int
  | 4 => .array .int
  | 5 => .boolean
  | 6 => .int
  | 7 => .array .int
  | 8 => .boolean
  | 9 => .int
  | 10 => .int
  | 11 => .array .int
  | 12 => .array .int
  | 13 => .array .int
  | 14 => .array .int
  | 15 => .array .int
  | 16 => .array .int
  | 17 => .array .long
  | 18 => .array .long
  | 19 => .array .boolean
  | 20 => .array .int
  | 21 => .array .int
  | _ => .array .int
theorem nm_Y : ∀ a, a < 23 → ∀ b, b < 23 → a ≠ b → (T_Y a).2.1 ≠ (T_Y b).2.1 := by decide +kernel
theorem tok_Y : ∀ k, k < 23 → parseFieldDescriptor (T_Y k).2.2.1 = some (ty_Y k) := by decide +kernel
def vwCl : List vw_C := [(R_X, T_X, 10), (R_G, T_G, 4), (R_K, T_K, 7), (R_N, T_N, 2), (R_T, T_T, 3), (R_V, T_V, 8), (R_Y, T_Y, 23)]
def m_X_init : MethodName × ByteArray × Nat × Option FieldType := (⟨"IndependenceRows", "<init>", "()V"⟩, prog_1_method_1_code, 1, none)
def m_G_init : MethodName × ByteArray × Nat × Option FieldType := (⟨"IndependenceRows$Graph", "<init>", "()V"⟩, prog_2_method_1_code, 1, none)
def m_T_init : MethodName × ByteArray × Nat × Option FieldType := (⟨"IndependenceRows$Tables", "<init>", "()V"⟩, prog_5_method_1_code, 1, none)
def m_V_init : MethodName × ByteArray × Nat × Option FieldType := (⟨"IndependenceRows$Walks", "<init>", "()V"⟩, prog_6_method_1_code, 1, none)
def m_K_init : MethodName × ByteArray × Nat × Option FieldType := (⟨"IndependenceRows$Kin", "<init>", "()V"⟩, prog_3_method_1_code, 1, none)
def m_N_init : MethodName × ByteArray × Nat × Option FieldType := (⟨"IndependenceRows$Margin", "<init>", "()V"⟩, prog_4_method_1_code, 1, none)
def m_X_clear : MethodName × ByteArray × Nat × Option FieldType := (⟨"IndependenceRows", "clear", "()I"⟩, prog_1_method_2_code, 2, some .int)
def m_G_empty : MethodName × ByteArray × Nat × Option FieldType := (⟨"IndependenceRows$Graph", "empty", "()V"⟩, prog_2_method_2_code, 1, none)
def m_A_fillI : MethodName × ByteArray × Nat × Option FieldType := (⟨"java/util/Arrays", "fill", "([II)V"⟩, prog_11_method_103_code, 4, none)
def m_T_releaseAll : MethodName × ByteArray × Nat × Option FieldType := (⟨"IndependenceRows$Tables", "releaseAll", "()V"⟩, prog_5_method_3_code, 1, none)
def m_X_place : MethodName × ByteArray × Nat × Option FieldType := (⟨"IndependenceRows", "place", "()I"⟩, prog_1_method_3_code, 2, some .int)
def m_T_startRows : MethodName × ByteArray × Nat × Option FieldType := (⟨"IndependenceRows$Tables", "startRows", "(I)V"⟩, prog_5_method_2_code, 2, none)
def m_X_arc : MethodName × ByteArray × Nat × Option FieldType := (⟨"IndependenceRows", "arc", "(II)I"⟩, prog_1_method_4_code, 3, some .int)
def m_X_isPair : MethodName × ByteArray × Nat × Option FieldType := (⟨"IndependenceRows", "isPair", "(II)Z"⟩, prog_1_method_24_code, 3, some .boolean)
def m_X_isPlace : MethodName × ByteArray × Nat × Option FieldType := (⟨"IndependenceRows", "isPlace", "(I)Z"⟩, prog_1_method_23_code, 2, some .boolean)
def m_G_neighbours : MethodName × ByteArray × Nat × Option FieldType := (⟨"IndependenceRows$Graph", "neighbours", "(I)I"⟩, prog_2_method_7_code, 2, some .int)
def m_X_has : MethodName × ByteArray × Nat × Option FieldType := (⟨"IndependenceRows", "has", "(II)Z"⟩, prog_1_method_32_code, 2, some .boolean)
def m_X_bit : MethodName × ByteArray × Nat × Option FieldType := (⟨"IndependenceRows", "bit", "(I)I"⟩, prog_1_method_31_code, 1, some .int)
def m_X_closure : MethodName × ByteArray × Nat × Option FieldType := (⟨"IndependenceRows", "closure", "([II)I"⟩, prog_1_method_34_code, 5, some .int)
def m_X_union : MethodName × ByteArray × Nat × Option FieldType := (⟨"IndependenceRows", "union", "([II)I"⟩, prog_1_method_33_code, 4, some .int)
def m_G_join : MethodName × ByteArray × Nat × Option FieldType := (⟨"IndependenceRows$Graph", "join", "(II)V"⟩, prog_2_method_4_code, 3, none)
def m_X_cut : MethodName × ByteArray × Nat × Option FieldType := (⟨"IndependenceRows", "cut", "(II)I"⟩, prog_1_method_5_code, 3, some .int)
def m_G_part : MethodName × ByteArray × Nat × Option FieldType := (⟨"IndependenceRows$Graph", "part", "(II)V"⟩, prog_2_method_5_code, 3, none)
def m_X_odds : MethodName × ByteArray × Nat × Option FieldType := (⟨"IndependenceRows", "odds", "(III)I"⟩, prog_1_method_6_code, 5, some .int)
def m_X_isRow : MethodName × ByteArray × Nat × Option FieldType := (⟨"IndependenceRows", "isRow", "(II)Z"⟩, prog_1_method_27_code, 3, some .boolean)
def m_G_rows : MethodName × ByteArray × Nat × Option FieldType := (⟨"IndependenceRows$Graph", "rows", "(I)I"⟩, prog_2_method_8_code, 2, some .int)
def m_I_bitCount : MethodName × ByteArray × Nat × Option FieldType := (⟨"java/lang/Integer", "bitCount", "(I)I"⟩, prog_9_method_49_code, 1, some .int)
def m_X_hold : MethodName × ByteArray × Nat × Option FieldType := (⟨"IndependenceRows", "hold", "(II)I"⟩, prog_1_method_7_code, 4, some .int)
def m_T_heldAt : MethodName × ByteArray × Nat × Option FieldType := (⟨"IndependenceRows$Tables", "heldAt", "(I)I"⟩, prog_5_method_5_code, 2, some .int)
def m_T_setHeld : MethodName × ByteArray × Nat × Option FieldType := (⟨"IndependenceRows$Tables", "setHeld", "(II)V"⟩, prog_5_method_4_code, 3, none)
def m_X_told : MethodName × ByteArray × Nat × Option FieldType := (⟨"IndependenceRows", "told", "(II)I"⟩, prog_1_method_8_code, 3, some .int)
def m_X_of : MethodName × ByteArray × Nat × Option FieldType := (⟨"IndependenceRows", "of", "(II)I"⟩, prog_1_method_9_code, 3, some .int)
def m_V_lookAt : MethodName × ByteArray × Nat × Option FieldType := (⟨"IndependenceRows$Walks", "lookAt", "(LIndependenceRows$Graph;II)V"⟩, prog_6_method_2_code, 5, none)
def m_V_below : MethodName × ByteArray × Nat × Option FieldType := (⟨"IndependenceRows$Walks", "below", "(I)I"⟩, prog_6_method_3_code, 2, some .int)
def m_X_separated : MethodName × ByteArray × Nat × Option FieldType := (⟨"IndependenceRows", "separated", "(III)I"⟩, prog_1_method_10_code, 4, some .int)
def m_X_isQuestion : MethodName × ByteArray × Nat × Option FieldType := (⟨"IndependenceRows", "isQuestion", "(III)Z"⟩, prog_1_method_26_code, 4, some .boolean)
def m_X_isSet : MethodName × ByteArray × Nat × Option FieldType := (⟨"IndependenceRows", "isSet", "(I)Z"⟩, prog_1_method_25_code, 2, some .boolean)
def m_G_everyPlace : MethodName × ByteArray × Nat × Option FieldType := (⟨"IndependenceRows$Graph", "everyPlace", "()I"⟩, prog_2_method_6_code, 1, some .int)
def m_V_shortest : MethodName × ByteArray × Nat × Option FieldType := (⟨"IndependenceRows$Walks", "shortest", "(III)I"⟩, prog_6_method_4_code, 5, some .int)
def m_V_start : MethodName × ByteArray × Nat × Option FieldType := (⟨"IndependenceRows$Walks", "start", "(II)V"⟩, prog_6_method_6_code, 3, none)
def m_V_step : MethodName × ByteArray × Nat × Option FieldType := (⟨"IndependenceRows$Walks", "step", "()V"⟩, prog_6_method_7_code, 4, none)
def m_X_answer : MethodName × ByteArray × Nat × Option FieldType := (⟨"IndependenceRows", "answer", "(Z)I"⟩, prog_1_method_30_code, 1, some .int)
def m_X_walk : MethodName × ByteArray × Nat × Option FieldType := (⟨"IndependenceRows", "walk", "(III)I"⟩, prog_1_method_11_code, 4, some .int)
def m_X_weight : MethodName × ByteArray × Nat × Option FieldType := (⟨"IndependenceRows", "weight", "(II)J"⟩, prog_1_method_12_code, 7, some .long)
def m_T_product : MethodName × ByteArray × Nat × Option FieldType := (⟨"IndependenceRows$Tables", "product", "(LIndependenceRows$Graph;I)J"⟩, prog_5_method_6_code, 6, some .long)
def m_T_factor : MethodName × ByteArray × Nat × Option FieldType := (⟨"IndependenceRows$Tables", "factor", "(LIndependenceRows$Graph;II)I"⟩, prog_5_method_7_code, 5, some .int)
def m_T_rowIn : MethodName × ByteArray × Nat × Option FieldType := (⟨"IndependenceRows$Tables", "rowIn", "(II)I"⟩, prog_5_method_8_code, 5, some .int)
def m_X_independent : MethodName × ByteArray × Nat × Option FieldType := (⟨"IndependenceRows", "independent", "(III)I"⟩, prog_1_method_13_code, 4, some .int)
def m_X_leastDifference : MethodName × ByteArray × Nat × Option FieldType := (⟨"IndependenceRows", "leastDifference", "(III)I"⟩, prog_1_method_28_code, 9, some .int)
def m_N_start : MethodName × ByteArray × Nat × Option FieldType := (⟨"IndependenceRows$Margin", "start", "(I)V"⟩, prog_4_method_2_code, 2, none)
def m_A_fillJ : MethodName × ByteArray × Nat × Option FieldType := (⟨"java/util/Arrays", "fill", "([JJ)V"⟩, prog_11_method_101_code, 5, none)
def m_N_add : MethodName × ByteArray × Nat × Option FieldType := (⟨"IndependenceRows$Margin", "add", "(IJ)V"⟩, prog_4_method_3_code, 4, none)
def m_N_sum : MethodName × ByteArray × Nat × Option FieldType := (⟨"IndependenceRows$Margin", "sum", "(I)J"⟩, prog_4_method_4_code, 2, some .long)
def m_X_differ : MethodName × ByteArray × Nat × Option FieldType := (⟨"IndependenceRows", "differ", "(III)I"⟩, prog_1_method_14_code, 4, some .int)
def m_X_blanket : MethodName × ByteArray × Nat × Option FieldType := (⟨"IndependenceRows", "blanket", "(I)I"⟩, prog_1_method_15_code, 2, some .int)
def m_X_fewest : MethodName × ByteArray × Nat × Option FieldType := (⟨"IndependenceRows", "fewest", "(III)I"⟩, prog_1_method_29_code, 8, some .int)
def m_V_reached : MethodName × ByteArray × Nat × Option FieldType := (⟨"IndependenceRows$Walks", "reached", "(II)I"⟩, prog_6_method_5_code, 4, some .int)
def m_X_least : MethodName × ByteArray × Nat × Option FieldType := (⟨"IndependenceRows", "least", "(II)I"⟩, prog_1_method_16_code, 3, some .int)
def m_X_enough : MethodName × ByteArray × Nat × Option FieldType := (⟨"IndependenceRows", "enough", "(III)I"⟩, prog_1_method_17_code, 4, some .int)
def m_X_keep : MethodName × ByteArray × Nat × Option FieldType := (⟨"IndependenceRows", "keep", "()I"⟩, prog_1_method_18_code, 1, some .int)
def m_G_copy : MethodName × ByteArray × Nat × Option FieldType := (⟨"IndependenceRows$Graph", "copy", "(LIndependenceRows$Graph;)V"⟩, prog_2_method_3_code, 2, none)
def m_X_alike : MethodName × ByteArray × Nat × Option FieldType := (⟨"IndependenceRows", "alike", "()I"⟩, prog_1_method_19_code, 1, some .int)
def m_G_tellsTheSameAs : MethodName × ByteArray × Nat × Option FieldType := (⟨"IndependenceRows$Graph", "tellsTheSameAs", "(LIndependenceRows$Graph;)Z"⟩, prog_2_method_10_code, 4, some .boolean)
def m_G_strangers : MethodName × ByteArray × Nat × Option FieldType := (⟨"IndependenceRows$Graph", "strangers", "(II)I"⟩, prog_2_method_9_code, 3, some .int)
def m_X_settled : MethodName × ByteArray × Nat × Option FieldType := (⟨"IndependenceRows", "settled", "(II)I"⟩, prog_1_method_20_code, 3, some .int)
def m_K_explore : MethodName × ByteArray × Nat × Option FieldType := (⟨"IndependenceRows$Kin", "explore", "(LIndependenceRows$Graph;)V"⟩, prog_3_method_2_code, 2, none)
def m_K_listArcs : MethodName × ByteArray × Nat × Option FieldType := (⟨"IndependenceRows$Kin", "listArcs", "()V"⟩, prog_3_method_3_code, 3, none)
def m_K_direct : MethodName × ByteArray × Nat × Option FieldType := (⟨"IndependenceRows$Kin", "direct", "(II)V"⟩, prog_3_method_5_code, 5, none)
def m_K_directOne : MethodName × ByteArray × Nat × Option FieldType := (⟨"IndependenceRows$Kin", "directOne", "(IIII)V"⟩, prog_3_method_6_code, 5, none)
def m_K_meetsAsFirst : MethodName × ByteArray × Nat × Option FieldType := (⟨"IndependenceRows$Kin", "meetsAsFirst", "(II)Z"⟩, prog_3_method_7_code, 4, some .boolean)
def m_K_isTurned : MethodName × ByteArray × Nat × Option FieldType := (⟨"IndependenceRows$Kin", "isTurned", "(II)Z"⟩, prog_3_method_4_code, 4, some .boolean)
def m_X_family : MethodName × ByteArray × Nat × Option FieldType := (⟨"IndependenceRows", "family", "()I"⟩, prog_1_method_21_code, 1, some .int)
def m_X_count : MethodName × ByteArray × Nat × Option FieldType := (⟨"IndependenceRows", "count", "(I)I"⟩, prog_1_method_22_code, 2, some .int)
def m_Y_init : MethodName × ByteArray × Nat × Option FieldType := (⟨"IndependenceRowsModel", "<init>", "()V"⟩, prog_8_method_1_code, 1, none)
def m_Y_begin : MethodName × ByteArray × Nat × Option FieldType := (⟨"IndependenceRowsModel", "begin", "()V"⟩, prog_8_method_2_code, 2, none)
def m_Y_clear : MethodName × ByteArray × Nat × Option FieldType := (⟨"IndependenceRowsModel", "clear", "()I"⟩, prog_8_method_3_code, 2, some .int)
def m_Y_place : MethodName × ByteArray × Nat × Option FieldType := (⟨"IndependenceRowsModel", "place", "()I"⟩, prog_8_method_9_code, 2, some .int)
def m_Y_evenOdds : MethodName × ByteArray × Nat × Option FieldType := (⟨"IndependenceRowsModel", "evenOdds", "(I)V"⟩, prog_8_method_8_code, 3, none)
def m_Y_arc : MethodName × ByteArray × Nat × Option FieldType := (⟨"IndependenceRowsModel", "arc", "(II)I"⟩, prog_8_method_11_code, 3, some .int)
def m_Y_isPlace : MethodName × ByteArray × Nat × Option FieldType := (⟨"IndependenceRowsModel", "isPlace", "(I)Z"⟩, prog_8_method_4_code, 2, some .boolean)
def m_Y_aboveOf : MethodName × ByteArray × Nat × Option FieldType := (⟨"IndependenceRowsModel", "aboveOf", "([II)I"⟩, prog_8_method_10_code, 6, some .int)
def m_Y_cut : MethodName × ByteArray × Nat × Option FieldType := (⟨"IndependenceRowsModel", "cut", "(II)I"⟩, prog_8_method_13_code, 3, some .int)
def m_Y_isArc : MethodName × ByteArray × Nat × Option FieldType := (⟨"IndependenceRowsModel", "isArc", "(II)Z"⟩, prog_8_method_12_code, 3, some .boolean)
def m_Y_odds : MethodName × ByteArray × Nat × Option FieldType := (⟨"IndependenceRowsModel", "odds", "(III)I"⟩, prog_8_method_15_code, 5, some .int)
def m_Y_isRow : MethodName × ByteArray × Nat × Option FieldType := (⟨"IndependenceRowsModel", "isRow", "(II)Z"⟩, prog_8_method_14_code, 3, some .boolean)
def m_Y_many : MethodName × ByteArray × Nat × Option FieldType := (⟨"IndependenceRowsModel", "many", "(I)I"⟩, prog_8_method_7_code, 3, some .int)
def m_Y_hold : MethodName × ByteArray × Nat × Option FieldType := (⟨"IndependenceRowsModel", "hold", "(II)I"⟩, prog_8_method_16_code, 4, some .int)
def m_Y_told : MethodName × ByteArray × Nat × Option FieldType := (⟨"IndependenceRowsModel", "told", "(II)I"⟩, prog_8_method_17_code, 3, some .int)
def m_Y_of : MethodName × ByteArray × Nat × Option FieldType := (⟨"IndependenceRowsModel", "of", "(II)I"⟩, prog_8_method_20_code, 5, some .int)
def m_Y_countArcs : MethodName × ByteArray × Nat × Option FieldType := (⟨"IndependenceRowsModel", "countArcs", "(I)V"⟩, prog_8_method_18_code, 4, none)
def m_Y_belowOf : MethodName × ByteArray × Nat × Option FieldType := (⟨"IndependenceRowsModel", "belowOf", "(I)I"⟩, prog_8_method_19_code, 2, some .int)
def m_Y_separated : MethodName × ByteArray × Nat × Option FieldType := (⟨"IndependenceRowsModel", "separated", "(III)I"⟩, prog_8_method_22_code, 4, some .int)
def m_Y_isAsked : MethodName × ByteArray × Nat × Option FieldType := (⟨"IndependenceRowsModel", "isAsked", "(III)Z"⟩, prog_8_method_6_code, 4, some .boolean)
def m_Y_isSet : MethodName × ByteArray × Nat × Option FieldType := (⟨"IndependenceRowsModel", "isSet", "(I)Z"⟩, prog_8_method_5_code, 2, some .boolean)
def m_Y_isSeparated : MethodName × ByteArray × Nat × Option FieldType := (⟨"IndependenceRowsModel", "isSeparated", "([IIII)Z"⟩, prog_8_method_21_code, 9, some .boolean)
def m_Y_walk : MethodName × ByteArray × Nat × Option FieldType := (⟨"IndependenceRowsModel", "walk", "(III)I"⟩, prog_8_method_23_code, 10, some .int)
def m_Y_children2 : MethodName × ByteArray × Nat × Option FieldType := (⟨"IndependenceRowsModel", "children2", "(II)I"⟩, prog_8_method_24_code, 3, some .int)
def m_Y_weight : MethodName × ByteArray × Nat × Option FieldType := (⟨"IndependenceRowsModel", "weight", "(II)J"⟩, prog_8_method_26_code, 6, some .long)
def m_Y_weigh : MethodName × ByteArray × Nat × Option FieldType := (⟨"IndependenceRowsModel", "weigh", "()V"⟩, prog_8_method_25_code, 9, none)
def m_Y_independent : MethodName × ByteArray × Nat × Option FieldType := (⟨"IndependenceRowsModel", "independent", "(III)I"⟩, prog_8_method_28_code, 4, some .int)
def m_Y_hangs : MethodName × ByteArray × Nat × Option FieldType := (⟨"IndependenceRowsModel", "hangs", "(III)I"⟩, prog_8_method_27_code, 8, some .int)
def m_Y_differ : MethodName × ByteArray × Nat × Option FieldType := (⟨"IndependenceRowsModel", "differ", "(III)I"⟩, prog_8_method_29_code, 4, some .int)
def m_Y_blanket : MethodName × ByteArray × Nat × Option FieldType := (⟨"IndependenceRowsModel", "blanket", "(I)I"⟩, prog_8_method_30_code, 7, some .int)
def m_Y_least : MethodName × ByteArray × Nat × Option FieldType := (⟨"IndependenceRowsModel", "least", "(II)I"⟩, prog_8_method_31_code, 6, some .int)
def m_Y_enough : MethodName × ByteArray × Nat × Option FieldType := (⟨"IndependenceRowsModel", "enough", "(III)I"⟩, prog_8_method_32_code, 4, some .int)
def m_Y_keep : MethodName × ByteArray × Nat × Option FieldType := (⟨"IndependenceRowsModel", "keep", "()I"⟩, prog_8_method_33_code, 2, some .int)
def m_Y_alike : MethodName × ByteArray × Nat × Option FieldType := (⟨"IndependenceRowsModel", "alike", "()I"⟩, prog_8_method_36_code, 1, some .int)
def m_Y_learn : MethodName × ByteArray × Nat × Option FieldType := (⟨"IndependenceRowsModel", "learn", "()V"⟩, prog_8_method_34_code, 5, none)
def m_Y_tellsAlike : MethodName × ByteArray × Nat × Option FieldType := (⟨"IndependenceRowsModel", "tellsAlike", "([I)Z"⟩, prog_8_method_35_code, 6, some .boolean)
def m_Y_settled : MethodName × ByteArray × Nat × Option FieldType := (⟨"IndependenceRowsModel", "settled", "(II)I"⟩, prog_8_method_40_code, 6, some .int)
def m_Y_countFamily : MethodName × ByteArray × Nat × Option FieldType := (⟨"IndependenceRowsModel", "countFamily", "()V"⟩, prog_8_method_39_code, 6, none)
def m_Y_listArcs : MethodName × ByteArray × Nat × Option FieldType := (⟨"IndependenceRowsModel", "listArcs", "()I"⟩, prog_8_method_37_code, 4, some .int)
def m_Y_hasNoRing : MethodName × ByteArray × Nat × Option FieldType := (⟨"IndependenceRowsModel", "hasNoRing", "()Z"⟩, prog_8_method_38_code, 4, some .boolean)
def m_Y_family : MethodName × ByteArray × Nat × Option FieldType := (⟨"IndependenceRowsModel", "family", "()I"⟩, prog_8_method_41_code, 1, some .int)
def m_Y_count : MethodName × ByteArray × Nat × Option FieldType := (⟨"IndependenceRowsModel", "count", "(I)I"⟩, prog_8_method_42_code, 4, some .int)
def m_L_law : MethodName × ByteArray × Nat × Option FieldType := (x, code, maxLocals, ret)
