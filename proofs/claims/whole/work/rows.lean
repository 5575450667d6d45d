section
-- ===== PART A: goes FIRST, ahead of the names: the tables' words, and 'selects' of the private methods out of them =====
/-- a private method of a class that the tables say can be made, by its rows of tables_1 -/
def lw_okq (q : MethodName × Nat) : Prop := (q.1.cls ≠ "java/lang/invoke/MethodHandle" ∧ q.1.cls ≠ "java/lang/invoke/VarHandle") ∧ Cond.instantiable q.1.cls q.2 ∈ tables_1 ∧ Cond.privateMethod q.1 ∈ tables_1 ∧ Cond.instanceMethod q.1 ∈ tables_1
theorem lw_p0 : lw_okq (⟨"IndependenceRows$Graph", "empty", "()V"⟩, 4) := ⟨⟨by decide +kernel, by decide +kernel⟩, List.mem_of_getElem? (i := 20) (by decide +kernel), List.mem_of_getElem? (i := 182) (by decide +kernel), List.mem_of_getElem? (i := 183) (by decide +kernel)⟩
theorem lw_p1 : lw_okq (⟨"IndependenceRows$Tables", "releaseAll", "()V"⟩, 3) := ⟨⟨by decide +kernel, by decide +kernel⟩, List.mem_of_getElem? (i := 50) (by decide +kernel), List.mem_of_getElem? (i := 189) (by decide +kernel), List.mem_of_getElem? (i := 190) (by decide +kernel)⟩
theorem lw_p2 : lw_okq (⟨"IndependenceRows$Tables", "startRows", "(I)V"⟩, 3) := ⟨⟨by decide +kernel, by decide +kernel⟩, List.mem_of_getElem? (i := 50) (by decide +kernel), List.mem_of_getElem? (i := 197) (by decide +kernel), List.mem_of_getElem? (i := 198) (by decide +kernel)⟩
theorem lw_p3 : lw_okq (⟨"IndependenceRows", "isPair", "(II)Z"⟩, 10) := ⟨⟨by decide +kernel, by decide +kernel⟩, List.mem_of_getElem? (i := 12) (by decide +kernel), List.mem_of_getElem? (i := 206) (by decide +kernel), List.mem_of_getElem? (i := 207) (by decide +kernel)⟩
theorem lw_p4 : lw_okq (⟨"IndependenceRows", "isPlace", "(I)Z"⟩, 10) := ⟨⟨by decide +kernel, by decide +kernel⟩, List.mem_of_getElem? (i := 12) (by decide +kernel), List.mem_of_getElem? (i := 210) (by decide +kernel), List.mem_of_getElem? (i := 211) (by decide +kernel)⟩
theorem lw_p5 : lw_okq (⟨"IndependenceRows$Graph", "neighbours", "(I)I"⟩, 4) := ⟨⟨by decide +kernel, by decide +kernel⟩, List.mem_of_getElem? (i := 20) (by decide +kernel), List.mem_of_getElem? (i := 214) (by decide +kernel), List.mem_of_getElem? (i := 215) (by decide +kernel)⟩
theorem lw_p6 : lw_okq (⟨"IndependenceRows$Graph", "join", "(II)V"⟩, 4) := ⟨⟨by decide +kernel, by decide +kernel⟩, List.mem_of_getElem? (i := 20) (by decide +kernel), List.mem_of_getElem? (i := 230) (by decide +kernel), List.mem_of_getElem? (i := 231) (by decide +kernel)⟩
theorem lw_p7 : lw_okq (⟨"IndependenceRows$Graph", "part", "(II)V"⟩, 4) := ⟨⟨by decide +kernel, by decide +kernel⟩, List.mem_of_getElem? (i := 20) (by decide +kernel), List.mem_of_getElem? (i := 239) (by decide +kernel), List.mem_of_getElem? (i := 240) (by decide +kernel)⟩
theorem lw_p8 : lw_okq (⟨"IndependenceRows", "isRow", "(II)Z"⟩, 10) := ⟨⟨by decide +kernel, by decide +kernel⟩, List.mem_of_getElem? (i := 12) (by decide +kernel), List.mem_of_getElem? (i := 247) (by decide +kernel), List.mem_of_getElem? (i := 248) (by decide +kernel)⟩
theorem lw_p9 : lw_okq (⟨"IndependenceRows$Graph", "rows", "(I)I"⟩, 4) := ⟨⟨by decide +kernel, by decide +kernel⟩, List.mem_of_getElem? (i := 20) (by decide +kernel), List.mem_of_getElem? (i := 251) (by decide +kernel), List.mem_of_getElem? (i := 252) (by decide +kernel)⟩
theorem lw_p10 : lw_okq (⟨"IndependenceRows$Tables", "heldAt", "(I)I"⟩, 3) := ⟨⟨by decide +kernel, by decide +kernel⟩, List.mem_of_getElem? (i := 50) (by decide +kernel), List.mem_of_getElem? (i := 265) (by decide +kernel), List.mem_of_getElem? (i := 266) (by decide +kernel)⟩
theorem lw_p11 : lw_okq (⟨"IndependenceRows$Tables", "setHeld", "(II)V"⟩, 3) := ⟨⟨by decide +kernel, by decide +kernel⟩, List.mem_of_getElem? (i := 50) (by decide +kernel), List.mem_of_getElem? (i := 270) (by decide +kernel), List.mem_of_getElem? (i := 271) (by decide +kernel)⟩
theorem lw_p12 : lw_okq (⟨"IndependenceRows$Walks", "lookAt", "(LIndependenceRows$Graph;II)V"⟩, 8) := ⟨⟨by decide +kernel, by decide +kernel⟩, List.mem_of_getElem? (i := 70) (by decide +kernel), List.mem_of_getElem? (i := 283) (by decide +kernel), List.mem_of_getElem? (i := 284) (by decide +kernel)⟩
theorem lw_p13 : lw_okq (⟨"IndependenceRows$Walks", "below", "(I)I"⟩, 8) := ⟨⟨by decide +kernel, by decide +kernel⟩, List.mem_of_getElem? (i := 70) (by decide +kernel), List.mem_of_getElem? (i := 288) (by decide +kernel), List.mem_of_getElem? (i := 289) (by decide +kernel)⟩
theorem lw_p14 : lw_okq (⟨"IndependenceRows", "isQuestion", "(III)Z"⟩, 10) := ⟨⟨by decide +kernel, by decide +kernel⟩, List.mem_of_getElem? (i := 12) (by decide +kernel), List.mem_of_getElem? (i := 297) (by decide +kernel), List.mem_of_getElem? (i := 298) (by decide +kernel)⟩
theorem lw_p15 : lw_okq (⟨"IndependenceRows", "isSet", "(I)Z"⟩, 10) := ⟨⟨by decide +kernel, by decide +kernel⟩, List.mem_of_getElem? (i := 12) (by decide +kernel), List.mem_of_getElem? (i := 301) (by decide +kernel), List.mem_of_getElem? (i := 302) (by decide +kernel)⟩
def lw_privs_1 : List (MethodName × Nat) := [(⟨"IndependenceRows$Graph", "empty", "()V"⟩, 4), (⟨"IndependenceRows$Tables", "releaseAll", "()V"⟩, 3), (⟨"IndependenceRows$Tables", "startRows", "(I)V"⟩, 3), (⟨"IndependenceRows", "isPair", "(II)Z"⟩, 10), (⟨"IndependenceRows", "isPlace", "(I)Z"⟩, 10), (⟨"IndependenceRows$Graph", "neighbours", "(I)I"⟩, 4), (⟨"IndependenceRows$Graph", "join", "(II)V"⟩, 4), (⟨"IndependenceRows$Graph", "part", "(II)V"⟩, 4), (⟨"IndependenceRows", "isRow", "(II)Z"⟩, 10), (⟨"IndependenceRows$Graph", "rows", "(I)I"⟩, 4), (⟨"IndependenceRows$Tables", "heldAt", "(I)I"⟩, 3), (⟨"IndependenceRows$Tables", "setHeld", "(II)V"⟩, 3), (⟨"IndependenceRows$Walks", "lookAt", "(LIndependenceRows$Graph;II)V"⟩, 8), (⟨"IndependenceRows$Walks", "below", "(I)I"⟩, 8), (⟨"IndependenceRows", "isQuestion", "(III)Z"⟩, 10), (⟨"IndependenceRows", "isSet", "(I)Z"⟩, 10)]
theorem lw_r1 : ∀ q ∈ lw_privs_1, lw_okq q := List.forall_mem_cons.mpr ⟨lw_p0, List.forall_mem_cons.mpr ⟨lw_p1, List.forall_mem_cons.mpr ⟨lw_p2, List.forall_mem_cons.mpr ⟨lw_p3, List.forall_mem_cons.mpr ⟨lw_p4, List.forall_mem_cons.mpr ⟨lw_p5, List.forall_mem_cons.mpr ⟨lw_p6, List.forall_mem_cons.mpr ⟨lw_p7, List.forall_mem_cons.mpr ⟨lw_p8, List.forall_mem_cons.mpr ⟨lw_p9, List.forall_mem_cons.mpr ⟨lw_p10, List.forall_mem_cons.mpr ⟨lw_p11, List.forall_mem_cons.mpr ⟨lw_p12, List.forall_mem_cons.mpr ⟨lw_p13, List.forall_mem_cons.mpr ⟨lw_p14, List.forall_mem_cons.mpr ⟨lw_p15, fun _ h => absurd h List.not_mem_nil⟩⟩⟩⟩⟩⟩⟩⟩⟩⟩⟩⟩⟩⟩⟩⟩
theorem lw_p16 : lw_okq (⟨"IndependenceRows$Graph", "everyPlace", "()I"⟩, 4) := ⟨⟨by decide +kernel, by decide +kernel⟩, List.mem_of_getElem? (i := 20) (by decide +kernel), List.mem_of_getElem? (i := 305) (by decide +kernel), List.mem_of_getElem? (i := 306) (by decide +kernel)⟩
theorem lw_p17 : lw_okq (⟨"IndependenceRows$Walks", "shortest", "(III)I"⟩, 8) := ⟨⟨by decide +kernel, by decide +kernel⟩, List.mem_of_getElem? (i := 70) (by decide +kernel), List.mem_of_getElem? (i := 309) (by decide +kernel), List.mem_of_getElem? (i := 310) (by decide +kernel)⟩
theorem lw_p18 : lw_okq (⟨"IndependenceRows$Walks", "start", "(II)V"⟩, 8) := ⟨⟨by decide +kernel, by decide +kernel⟩, List.mem_of_getElem? (i := 70) (by decide +kernel), List.mem_of_getElem? (i := 313) (by decide +kernel), List.mem_of_getElem? (i := 314) (by decide +kernel)⟩
theorem lw_p19 : lw_okq (⟨"IndependenceRows$Walks", "step", "()V"⟩, 8) := ⟨⟨by decide +kernel, by decide +kernel⟩, List.mem_of_getElem? (i := 70) (by decide +kernel), List.mem_of_getElem? (i := 317) (by decide +kernel), List.mem_of_getElem? (i := 318) (by decide +kernel)⟩
theorem lw_p20 : lw_okq (⟨"IndependenceRows$Tables", "product", "(LIndependenceRows$Graph;I)J"⟩, 3) := ⟨⟨by decide +kernel, by decide +kernel⟩, List.mem_of_getElem? (i := 50) (by decide +kernel), List.mem_of_getElem? (i := 334) (by decide +kernel), List.mem_of_getElem? (i := 335) (by decide +kernel)⟩
theorem lw_p21 : lw_okq (⟨"IndependenceRows$Tables", "factor", "(LIndependenceRows$Graph;II)I"⟩, 3) := ⟨⟨by decide +kernel, by decide +kernel⟩, List.mem_of_getElem? (i := 50) (by decide +kernel), List.mem_of_getElem? (i := 339) (by decide +kernel), List.mem_of_getElem? (i := 340) (by decide +kernel)⟩
theorem lw_p22 : lw_okq (⟨"IndependenceRows", "leastDifference", "(III)I"⟩, 10) := ⟨⟨by decide +kernel, by decide +kernel⟩, List.mem_of_getElem? (i := 12) (by decide +kernel), List.mem_of_getElem? (i := 350) (by decide +kernel), List.mem_of_getElem? (i := 351) (by decide +kernel)⟩
theorem lw_p23 : lw_okq (⟨"IndependenceRows$Margin", "start", "(I)V"⟩, 2) := ⟨⟨by decide +kernel, by decide +kernel⟩, List.mem_of_getElem? (i := 133) (by decide +kernel), List.mem_of_getElem? (i := 354) (by decide +kernel), List.mem_of_getElem? (i := 355) (by decide +kernel)⟩
theorem lw_p24 : lw_okq (⟨"IndependenceRows$Margin", "add", "(IJ)V"⟩, 2) := ⟨⟨by decide +kernel, by decide +kernel⟩, List.mem_of_getElem? (i := 133) (by decide +kernel), List.mem_of_getElem? (i := 361) (by decide +kernel), List.mem_of_getElem? (i := 362) (by decide +kernel)⟩
theorem lw_p25 : lw_okq (⟨"IndependenceRows$Margin", "sum", "(I)J"⟩, 2) := ⟨⟨by decide +kernel, by decide +kernel⟩, List.mem_of_getElem? (i := 133) (by decide +kernel), List.mem_of_getElem? (i := 365) (by decide +kernel), List.mem_of_getElem? (i := 366) (by decide +kernel)⟩
theorem lw_p26 : lw_okq (⟨"IndependenceRows", "fewest", "(III)I"⟩, 10) := ⟨⟨by decide +kernel, by decide +kernel⟩, List.mem_of_getElem? (i := 12) (by decide +kernel), List.mem_of_getElem? (i := 377) (by decide +kernel), List.mem_of_getElem? (i := 378) (by decide +kernel)⟩
theorem lw_p27 : lw_okq (⟨"IndependenceRows$Walks", "reached", "(II)I"⟩, 8) := ⟨⟨by decide +kernel, by decide +kernel⟩, List.mem_of_getElem? (i := 70) (by decide +kernel), List.mem_of_getElem? (i := 382) (by decide +kernel), List.mem_of_getElem? (i := 383) (by decide +kernel)⟩
theorem lw_p28 : lw_okq (⟨"IndependenceRows$Graph", "copy", "(LIndependenceRows$Graph;)V"⟩, 4) := ⟨⟨by decide +kernel, by decide +kernel⟩, List.mem_of_getElem? (i := 20) (by decide +kernel), List.mem_of_getElem? (i := 398) (by decide +kernel), List.mem_of_getElem? (i := 399) (by decide +kernel)⟩
theorem lw_p29 : lw_okq (⟨"IndependenceRows$Graph", "tellsTheSameAs", "(LIndependenceRows$Graph;)Z"⟩, 4) := ⟨⟨by decide +kernel, by decide +kernel⟩, List.mem_of_getElem? (i := 20) (by decide +kernel), List.mem_of_getElem? (i := 409) (by decide +kernel), List.mem_of_getElem? (i := 410) (by decide +kernel)⟩
theorem lw_p30 : lw_okq (⟨"IndependenceRows$Graph", "strangers", "(II)I"⟩, 4) := ⟨⟨by decide +kernel, by decide +kernel⟩, List.mem_of_getElem? (i := 20) (by decide +kernel), List.mem_of_getElem? (i := 414) (by decide +kernel), List.mem_of_getElem? (i := 415) (by decide +kernel)⟩
theorem lw_p31 : lw_okq (⟨"IndependenceRows$Kin", "explore", "(LIndependenceRows$Graph;)V"⟩, 7) := ⟨⟨by decide +kernel, by decide +kernel⟩, List.mem_of_getElem? (i := 101) (by decide +kernel), List.mem_of_getElem? (i := 423) (by decide +kernel), List.mem_of_getElem? (i := 424) (by decide +kernel)⟩
def lw_privs_2 : List (MethodName × Nat) := [(⟨"IndependenceRows$Graph", "everyPlace", "()I"⟩, 4), (⟨"IndependenceRows$Walks", "shortest", "(III)I"⟩, 8), (⟨"IndependenceRows$Walks", "start", "(II)V"⟩, 8), (⟨"IndependenceRows$Walks", "step", "()V"⟩, 8), (⟨"IndependenceRows$Tables", "product", "(LIndependenceRows$Graph;I)J"⟩, 3), (⟨"IndependenceRows$Tables", "factor", "(LIndependenceRows$Graph;II)I"⟩, 3), (⟨"IndependenceRows", "leastDifference", "(III)I"⟩, 10), (⟨"IndependenceRows$Margin", "start", "(I)V"⟩, 2), (⟨"IndependenceRows$Margin", "add", "(IJ)V"⟩, 2), (⟨"IndependenceRows$Margin", "sum", "(I)J"⟩, 2), (⟨"IndependenceRows", "fewest", "(III)I"⟩, 10), (⟨"IndependenceRows$Walks", "reached", "(II)I"⟩, 8), (⟨"IndependenceRows$Graph", "copy", "(LIndependenceRows$Graph;)V"⟩, 4), (⟨"IndependenceRows$Graph", "tellsTheSameAs", "(LIndependenceRows$Graph;)Z"⟩, 4), (⟨"IndependenceRows$Graph", "strangers", "(II)I"⟩, 4), (⟨"IndependenceRows$Kin", "explore", "(LIndependenceRows$Graph;)V"⟩, 7)]
theorem lw_r2 : ∀ q ∈ lw_privs_2, lw_okq q := List.forall_mem_cons.mpr ⟨lw_p16, List.forall_mem_cons.mpr ⟨lw_p17, List.forall_mem_cons.mpr ⟨lw_p18, List.forall_mem_cons.mpr ⟨lw_p19, List.forall_mem_cons.mpr ⟨lw_p20, List.forall_mem_cons.mpr ⟨lw_p21, List.forall_mem_cons.mpr ⟨lw_p22, List.forall_mem_cons.mpr ⟨lw_p23, List.forall_mem_cons.mpr ⟨lw_p24, List.forall_mem_cons.mpr ⟨lw_p25, List.forall_mem_cons.mpr ⟨lw_p26, List.forall_mem_cons.mpr ⟨lw_p27, List.forall_mem_cons.mpr ⟨lw_p28, List.forall_mem_cons.mpr ⟨lw_p29, List.forall_mem_cons.mpr ⟨lw_p30, List.forall_mem_cons.mpr ⟨lw_p31, fun _ h => absurd h List.not_mem_nil⟩⟩⟩⟩⟩⟩⟩⟩⟩⟩⟩⟩⟩⟩⟩⟩
theorem lw_p32 : lw_okq (⟨"IndependenceRows$Kin", "listArcs", "()V"⟩, 7) := ⟨⟨by decide +kernel, by decide +kernel⟩, List.mem_of_getElem? (i := 101) (by decide +kernel), List.mem_of_getElem? (i := 428) (by decide +kernel), List.mem_of_getElem? (i := 429) (by decide +kernel)⟩
theorem lw_p33 : lw_okq (⟨"IndependenceRows$Kin", "direct", "(II)V"⟩, 7) := ⟨⟨by decide +kernel, by decide +kernel⟩, List.mem_of_getElem? (i := 101) (by decide +kernel), List.mem_of_getElem? (i := 434) (by decide +kernel), List.mem_of_getElem? (i := 435) (by decide +kernel)⟩
theorem lw_p34 : lw_okq (⟨"IndependenceRows$Kin", "directOne", "(IIII)V"⟩, 7) := ⟨⟨by decide +kernel, by decide +kernel⟩, List.mem_of_getElem? (i := 101) (by decide +kernel), List.mem_of_getElem? (i := 438) (by decide +kernel), List.mem_of_getElem? (i := 439) (by decide +kernel)⟩
theorem lw_p35 : lw_okq (⟨"IndependenceRows$Kin", "meetsAsFirst", "(II)Z"⟩, 7) := ⟨⟨by decide +kernel, by decide +kernel⟩, List.mem_of_getElem? (i := 101) (by decide +kernel), List.mem_of_getElem? (i := 442) (by decide +kernel), List.mem_of_getElem? (i := 443) (by decide +kernel)⟩
theorem lw_p36 : lw_okq (⟨"IndependenceRows$Kin", "isTurned", "(II)Z"⟩, 7) := ⟨⟨by decide +kernel, by decide +kernel⟩, List.mem_of_getElem? (i := 101) (by decide +kernel), List.mem_of_getElem? (i := 450) (by decide +kernel), List.mem_of_getElem? (i := 451) (by decide +kernel)⟩
theorem lw_p37 : lw_okq (⟨"IndependenceRowsModel", "begin", "()V"⟩, 23) := ⟨⟨by decide +kernel, by decide +kernel⟩, List.mem_of_getElem? (i := 462) (by decide +kernel), List.mem_of_getElem? (i := 468) (by decide +kernel), List.mem_of_getElem? (i := 469) (by decide +kernel)⟩
theorem lw_p38 : lw_okq (⟨"IndependenceRowsModel", "evenOdds", "(I)V"⟩, 23) := ⟨⟨by decide +kernel, by decide +kernel⟩, List.mem_of_getElem? (i := 462) (by decide +kernel), List.mem_of_getElem? (i := 551) (by decide +kernel), List.mem_of_getElem? (i := 552) (by decide +kernel)⟩
theorem lw_p39 : lw_okq (⟨"IndependenceRowsModel", "isPlace", "(I)Z"⟩, 23) := ⟨⟨by decide +kernel, by decide +kernel⟩, List.mem_of_getElem? (i := 462) (by decide +kernel), List.mem_of_getElem? (i := 559) (by decide +kernel), List.mem_of_getElem? (i := 560) (by decide +kernel)⟩
theorem lw_p40 : lw_okq (⟨"IndependenceRowsModel", "aboveOf", "([II)I"⟩, 23) := ⟨⟨by decide +kernel, by decide +kernel⟩, List.mem_of_getElem? (i := 462) (by decide +kernel), List.mem_of_getElem? (i := 563) (by decide +kernel), List.mem_of_getElem? (i := 564) (by decide +kernel)⟩
theorem lw_p41 : lw_okq (⟨"IndependenceRowsModel", "isArc", "(II)Z"⟩, 23) := ⟨⟨by decide +kernel, by decide +kernel⟩, List.mem_of_getElem? (i := 462) (by decide +kernel), List.mem_of_getElem? (i := 571) (by decide +kernel), List.mem_of_getElem? (i := 572) (by decide +kernel)⟩
theorem lw_p42 : lw_okq (⟨"IndependenceRowsModel", "isRow", "(II)Z"⟩, 23) := ⟨⟨by decide +kernel, by decide +kernel⟩, List.mem_of_getElem? (i := 462) (by decide +kernel), List.mem_of_getElem? (i := 579) (by decide +kernel), List.mem_of_getElem? (i := 580) (by decide +kernel)⟩
theorem lw_p43 : lw_okq (⟨"IndependenceRowsModel", "countArcs", "(I)V"⟩, 23) := ⟨⟨by decide +kernel, by decide +kernel⟩, List.mem_of_getElem? (i := 462) (by decide +kernel), List.mem_of_getElem? (i := 598) (by decide +kernel), List.mem_of_getElem? (i := 599) (by decide +kernel)⟩
theorem lw_p44 : lw_okq (⟨"IndependenceRowsModel", "belowOf", "(I)I"⟩, 23) := ⟨⟨by decide +kernel, by decide +kernel⟩, List.mem_of_getElem? (i := 462) (by decide +kernel), List.mem_of_getElem? (i := 602) (by decide +kernel), List.mem_of_getElem? (i := 603) (by decide +kernel)⟩
theorem lw_p45 : lw_okq (⟨"IndependenceRowsModel", "isAsked", "(III)Z"⟩, 23) := ⟨⟨by decide +kernel, by decide +kernel⟩, List.mem_of_getElem? (i := 462) (by decide +kernel), List.mem_of_getElem? (i := 610) (by decide +kernel), List.mem_of_getElem? (i := 611) (by decide +kernel)⟩
theorem lw_p46 : lw_okq (⟨"IndependenceRowsModel", "isSet", "(I)Z"⟩, 23) := ⟨⟨by decide +kernel, by decide +kernel⟩, List.mem_of_getElem? (i := 462) (by decide +kernel), List.mem_of_getElem? (i := 614) (by decide +kernel), List.mem_of_getElem? (i := 615) (by decide +kernel)⟩
theorem lw_p47 : lw_okq (⟨"IndependenceRowsModel", "isSeparated", "([IIII)Z"⟩, 23) := ⟨⟨by decide +kernel, by decide +kernel⟩, List.mem_of_getElem? (i := 462) (by decide +kernel), List.mem_of_getElem? (i := 618) (by decide +kernel), List.mem_of_getElem? (i := 619) (by decide +kernel)⟩
def lw_privs_3 : List (MethodName × Nat) := [(⟨"IndependenceRows$Kin", "listArcs", "()V"⟩, 7), (⟨"IndependenceRows$Kin", "direct", "(II)V"⟩, 7), (⟨"IndependenceRows$Kin", "directOne", "(IIII)V"⟩, 7), (⟨"IndependenceRows$Kin", "meetsAsFirst", "(II)Z"⟩, 7), (⟨"IndependenceRows$Kin", "isTurned", "(II)Z"⟩, 7), (⟨"IndependenceRowsModel", "begin", "()V"⟩, 23), (⟨"IndependenceRowsModel", "evenOdds", "(I)V"⟩, 23), (⟨"IndependenceRowsModel", "isPlace", "(I)Z"⟩, 23), (⟨"IndependenceRowsModel", "aboveOf", "([II)I"⟩, 23), (⟨"IndependenceRowsModel", "isArc", "(II)Z"⟩, 23), (⟨"IndependenceRowsModel", "isRow", "(II)Z"⟩, 23), (⟨"IndependenceRowsModel", "countArcs", "(I)V"⟩, 23), (⟨"IndependenceRowsModel", "belowOf", "(I)I"⟩, 23), (⟨"IndependenceRowsModel", "isAsked", "(III)Z"⟩, 23), (⟨"IndependenceRowsModel", "isSet", "(I)Z"⟩, 23), (⟨"IndependenceRowsModel", "isSeparated", "([IIII)Z"⟩, 23)]
theorem lw_r3 : ∀ q ∈ lw_privs_3, lw_okq q := List.forall_mem_cons.mpr ⟨lw_p32, List.forall_mem_cons.mpr ⟨lw_p33, List.forall_mem_cons.mpr ⟨lw_p34, List.forall_mem_cons.mpr ⟨lw_p35, List.forall_mem_cons.mpr ⟨lw_p36, List.forall_mem_cons.mpr ⟨lw_p37, List.forall_mem_cons.mpr ⟨lw_p38, List.forall_mem_cons.mpr ⟨lw_p39, List.forall_mem_cons.mpr ⟨lw_p40, List.forall_mem_cons.mpr ⟨lw_p41, List.forall_mem_cons.mpr ⟨lw_p42, List.forall_mem_cons.mpr ⟨lw_p43, List.forall_mem_cons.mpr ⟨lw_p44, List.forall_mem_cons.mpr ⟨lw_p45, List.forall_mem_cons.mpr ⟨lw_p46, List.forall_mem_cons.mpr ⟨lw_p47, fun _ h => absurd h List.not_mem_nil⟩⟩⟩⟩⟩⟩⟩⟩⟩⟩⟩⟩⟩⟩⟩⟩
theorem lw_p48 : lw_okq (⟨"IndependenceRowsModel", "children2", "(II)I"⟩, 23) := ⟨⟨by decide +kernel, by decide +kernel⟩, List.mem_of_getElem? (i := 462) (by decide +kernel), List.mem_of_getElem? (i := 626) (by decide +kernel), List.mem_of_getElem? (i := 627) (by decide +kernel)⟩
theorem lw_p49 : lw_okq (⟨"IndependenceRowsModel", "weigh", "()V"⟩, 23) := ⟨⟨by decide +kernel, by decide +kernel⟩, List.mem_of_getElem? (i := 462) (by decide +kernel), List.mem_of_getElem? (i := 635) (by decide +kernel), List.mem_of_getElem? (i := 636) (by decide +kernel)⟩
theorem lw_p50 : lw_okq (⟨"IndependenceRowsModel", "hangs", "(III)I"⟩, 23) := ⟨⟨by decide +kernel, by decide +kernel⟩, List.mem_of_getElem? (i := 462) (by decide +kernel), List.mem_of_getElem? (i := 644) (by decide +kernel), List.mem_of_getElem? (i := 645) (by decide +kernel)⟩
theorem lw_p51 : lw_okq (⟨"IndependenceRowsModel", "learn", "()V"⟩, 23) := ⟨⟨by decide +kernel, by decide +kernel⟩, List.mem_of_getElem? (i := 462) (by decide +kernel), List.mem_of_getElem? (i := 672) (by decide +kernel), List.mem_of_getElem? (i := 673) (by decide +kernel)⟩
theorem lw_p52 : lw_okq (⟨"IndependenceRowsModel", "tellsAlike", "([I)Z"⟩, 23) := ⟨⟨by decide +kernel, by decide +kernel⟩, List.mem_of_getElem? (i := 462) (by decide +kernel), List.mem_of_getElem? (i := 676) (by decide +kernel), List.mem_of_getElem? (i := 677) (by decide +kernel)⟩
theorem lw_p53 : lw_okq (⟨"IndependenceRowsModel", "countFamily", "()V"⟩, 23) := ⟨⟨by decide +kernel, by decide +kernel⟩, List.mem_of_getElem? (i := 462) (by decide +kernel), List.mem_of_getElem? (i := 684) (by decide +kernel), List.mem_of_getElem? (i := 685) (by decide +kernel)⟩
theorem lw_p54 : lw_okq (⟨"IndependenceRowsModel", "listArcs", "()I"⟩, 23) := ⟨⟨by decide +kernel, by decide +kernel⟩, List.mem_of_getElem? (i := 462) (by decide +kernel), List.mem_of_getElem? (i := 688) (by decide +kernel), List.mem_of_getElem? (i := 689) (by decide +kernel)⟩
theorem lw_p55 : lw_okq (⟨"IndependenceRowsModel", "hasNoRing", "()Z"⟩, 23) := ⟨⟨by decide +kernel, by decide +kernel⟩, List.mem_of_getElem? (i := 462) (by decide +kernel), List.mem_of_getElem? (i := 692) (by decide +kernel), List.mem_of_getElem? (i := 693) (by decide +kernel)⟩
def lw_privs_4 : List (MethodName × Nat) := [(⟨"IndependenceRowsModel", "children2", "(II)I"⟩, 23), (⟨"IndependenceRowsModel", "weigh", "()V"⟩, 23), (⟨"IndependenceRowsModel", "hangs", "(III)I"⟩, 23), (⟨"IndependenceRowsModel", "learn", "()V"⟩, 23), (⟨"IndependenceRowsModel", "tellsAlike", "([I)Z"⟩, 23), (⟨"IndependenceRowsModel", "countFamily", "()V"⟩, 23), (⟨"IndependenceRowsModel", "listArcs", "()I"⟩, 23), (⟨"IndependenceRowsModel", "hasNoRing", "()Z"⟩, 23)]
theorem lw_r4 : ∀ q ∈ lw_privs_4, lw_okq q := List.forall_mem_cons.mpr ⟨lw_p48, List.forall_mem_cons.mpr ⟨lw_p49, List.forall_mem_cons.mpr ⟨lw_p50, List.forall_mem_cons.mpr ⟨lw_p51, List.forall_mem_cons.mpr ⟨lw_p52, List.forall_mem_cons.mpr ⟨lw_p53, List.forall_mem_cons.mpr ⟨lw_p54, List.forall_mem_cons.mpr ⟨lw_p55, fun _ h => absurd h List.not_mem_nil⟩⟩⟩⟩⟩⟩⟩⟩
def lw_privs : List (MethodName × Nat) := lw_privs_1 ++ (lw_privs_2 ++ (lw_privs_3 ++ (lw_privs_4)))
def lw_tbl : List Cond := k2_sels lw_privs ++ tables_1
theorem lw_privs_ok : ∀ q ∈ lw_privs, lw_okq q := by
  show ∀ q ∈ lw_privs_1 ++ (lw_privs_2 ++ (lw_privs_3 ++ (lw_privs_4))), lw_okq q
  exact List.forall_mem_append.mpr ⟨lw_r1, List.forall_mem_append.mpr ⟨lw_r2, List.forall_mem_append.mpr ⟨lw_r3, lw_r4⟩⟩⟩
/-! ===== BEGIN new T[n][m]: the outer array a place, the inner ones among the pooled ===== -/
/-- f, but v at every address of l -/
def vr_up {α : Type} (f : Nat → α) (l : List Nat) (v : α) : Nat → α := fun a => if a ∈ l then v else f a
theorem vr_up_in {α : Type} {f : Nat → α} {l : List Nat} {v : α} {a : Nat} (h : a ∈ l) : vr_up f l v a = v := if_pos h
theorem vr_up_ne {α : Type} {f : Nat → α} {l : List Nat} {v : α} {a : Nat} (h : a ∉ l) : vr_up f l v a = f a := if_neg h
theorem vr_rows {L l : List Nat} {f : Nat → va_E} {e : va_E} (h : ∀ a, a ∈ l → a ∉ L) : va_pl L f ++ l.map (fun a => (a, e)) = va_pl (L ++ l) (vr_up f l e) := by
  unfold va_pl
  rw [List.map_append]
  congr 1
  · apply List.map_congr_left
    intro a ha
    rw [vr_up_ne (fun q => h a q ha)]
  · apply List.map_congr_left
    intro a ha
    rw [vr_up_in ha]
theorem vr_lay {X rows : va_W} {x : Nat × va_E} {pl : va_W} {D : va_G} {cl : List vw_C} {H : Heap} (hP : va_P D cl (((X ++ pl) ++ [x]) ++ rows) H) : va_P D cl ((X ++ [x]) ++ (pl ++ rows)) H := by
  rw [List.append_assoc (X ++ pl)] at hP
  have h := va_P.swap hP
  rw [← List.append_assoc X] at h
  have h2 := va_P.swap h
  rw [List.append_assoc (X ++ [x])] at h2
  exact h2
theorem vr_layD {X rows : va_W} {x : Nat × va_E} {pl : va_W} {A : Nat → Prop} (hD : va_D A (((X ++ pl) ++ [x]) ++ rows)) : va_D A ((X ++ [x]) ++ (pl ++ rows)) := by
  rw [List.append_assoc (X ++ pl)] at hD
  have h := va_D.swap hD
  rw [← List.append_assoc X] at h
  have h2 := va_D.swap h
  rw [List.append_assoc (X ++ [x])] at h2
  exact h2
theorem vr_outer (c : ClassId) (N h0 : Nat) : ∀ i : Nat, Jvm.Free.Multi.outerC c N h0 i = arrV c N (fun j => va_rf (if j < i then some (h0 + 1 + j) else none))
  | 0 => by
    show ({ cls := c, slots := Array.replicate N .null, vm := .none } : Cell) = _
    rw [arrV_new]
    refine congrArg (arrV c N) (funext fun j => ?_)
    simp [va_rf]
  | i + 1 => by
    show (Jvm.Free.Multi.outerC c N h0 i).setSlot i (.ref (h0 + 1 + i)) = _
    rw [vr_outer c N h0 i, arrV_store]
    refine congrArg (arrV c N) (funext fun j => ?_)
    by_cases e : j = i
    · subst e
      simp [updV, va_rf]
    · by_cases h : j < i
      · simp [updV, e, h, Nat.lt_succ_of_lt h]
      · simp [updV, e, h, show ¬ j < i + 1 by omega]
section VGM
variable {p : Program} {l : Launch} {e : Env} {R : Room} {s : State} {m : MethodId} {args : Array Value} {below : List Frame} {meth : Method} {c : Code} {H : Heap} {locs : List Loc} {cells slots : Nat} {Q : State → Prop}
variable {cc : ByteArray} {pc : Nat} {ls : Array Slot} {rest : List Value} {D : va_G} {cl : List vw_C} {A : Nat → Prop} {a : Nat} {tys : List (ClassId × FieldType)} {ws : va_W} {H0 : Heap}
theorem va_mna {X : va_W} {L : List Nat} {f : Nat → va_E} {cc : ByteArray} (hexec : p.tables.exec = Jvm.exec) (hb : c.code = cc) {own : String} {index : Nat} {ty : FieldType} {cy : ClassId} (hown : s.vm.findClass own = some m.cls) (hclink : (Cond.classLink own index ("[" ++ (FieldType.array ty).toString)).before args s = true) (hover : (Cond.arrayOver (.array ty)).before args s = true) (harr : (Cond.arrayClass ty).before args s = true) (hcy : s.vm.findClass (FieldType.array ty).toString = some cy)
    (hK : va_K D cl tys s) (hP : va_P D cl (X ++ va_pl L f) H) (hD : va_D A (X ++ va_pl L f)) (hS : va_S A H0 H locs) (hA : ∀ q, H0.size ≤ q → A q) {n k : Int32} {N' K' : Nat} {z : vp_A} (hn : ¬ n < 0) (hk : ¬ k < 0) (hN : n.toNatClampNeg = N') (hM : k.toNatClampNeg = K')
    (hb1 : N' * 4 ≤ 536870912) (hb2 : K' * componentBytes ty ≤ 536870912) (hb3 : K' ≤ 536870912) (hdf : fits ty (defaultValue ty) = true) (hdd : (defaultValue ty).isDefault = true) (hcells : cells + (1 + N') ≤ R.cells) (hslots : slots + (N' + N' * K') ≤ R.slots) (hz : ∀ c : ClassId, Jvm.Free.Multi.innerC c K' (defaultValue ty) = vp_cell c z) (hdg : decode cc pc = .ok (.multianewarray index 2, 4))
    (kk : ∀ (q : Nat) (r : Nat → Nat) (cA : ClassId) (H1 : Heap), (∀ i j : Nat, i < N' → j < N' → r i = r j → i = j) → (∀ i : Nat, i < N' → r i ∉ L) → va_K D cl (tys ++ [(cA, .array ty)]) s →
      va_P D cl ((X ++ [(q, .inl (cA, N', .inr (.inr (.inr (.inr (fun i => if i < N' then some (r i) else none))))))]) ++ va_pl (L ++ (List.range N').map r) (vr_up f ((List.range N').map r) (.inl (cy, z)))) H1 → va_D A ((X ++ [(q, .inl (cA, N', .inr (.inr (.inr (.inr (fun i => if i < N' then some (r i) else none))))))]) ++ va_pl (L ++ (List.range N').map r) (vr_up f ((List.range N').map r) (.inl (cy, z)))) → va_S A H0 H1 locs →
      W p l e R s m args below meth c H1 locs (cells + 1 + N') (slots + N' + N' * K') Q (F0 m (pc + 4) ls (.ref q :: rest))) : W p l e R s m args below meth c H locs cells slots Q (F0 m pc ls (.int k :: .int n :: rest)) := by
  subst hN
  subst hM
  intro T hT Xs
  obtain ⟨vm₁, cA, comp, -, fA, fC, hO, -, X', step⟩ := Xs.multianewarray2F hexec hown hclink hover harr (g := F0 m pc ls (.int k :: .int n :: rest)) rfl (by rw [hb]; exact hdg) rfl hn hk hb1 hb2 hb3 hdf hdd hcells hslots
  have ec : some cy = some comp := hcy.symm.trans fC
  cases ec
  generalize hF : Jvm.Free.Multi.fill (T.setVm vm₁) cA cy n.toNatClampNeg k.toNatClampNeg (defaultValue ty) n.toNatClampNeg = F at X' step
  have hTh : (T.setVm vm₁).heap = H := hT
  obtain ⟨f1, f2, -, -⟩ := Jvm.Free.Multi.fill_facts (T.setVm vm₁) cA cy n.toNatClampNeg k.toNatClampNeg (defaultValue ty) n.toNatClampNeg
  rw [hF, hTh] at f1 f2
  have hold : ∀ x : Nat, x < H.size → F.heap[x]? = H[x]? := fun x hx => by
    have := Jvm.Free.Multi.fill_old (T.setVm vm₁) cA cy n.toNatClampNeg k.toNatClampNeg (defaultValue ty) (a := x) (by rw [hTh]; exact hx) n.toNatClampNeg
    rw [hF, hTh] at this
    exact this
  have hrow : ∀ j : Nat, j < n.toNatClampNeg → F.heap[H.size + 1 + j]? = some (vp_cell cy z) := fun j hj => by
    have := Jvm.Free.Multi.fill_inner (T.setVm vm₁) cA cy n.toNatClampNeg k.toNatClampNeg (defaultValue ty) n.toNatClampNeg j hj
    rw [hF, hTh, hz] at this
    exact this
  have hout : Jvm.Free.Multi.outerC cA n.toNatClampNeg H.size n.toNatClampNeg = vp_cell cA (n.toNatClampNeg, .inr (.inr (.inr (.inr (fun i => if i < n.toNatClampNeg then some (H.size + 1 + i) else none))))) := by
    rw [vp_cell_q]
    exact vr_outer cA n.toNatClampNeg H.size n.toNatClampNeg
  rw [hout] at f2
  have hlt : ∀ a, a ∈ L → a < H.size := fun a ha => by
    obtain ⟨k9, hk9⟩ := va_pl_get (X := X) (f := f) ha
    exact (hP k9 _ hk9).lt
  have hnl : ∀ i : Nat, i < n.toNatClampNeg → H.size + 1 + i ∉ L := fun i _ h => by
    have := hlt _ h
    omega
  have hnm : ∀ a, a ∈ (List.range n.toNatClampNeg).map (fun i => H.size + 1 + i) → a ∉ L := fun a ha h => by
    obtain ⟨i, -, rfl⟩ := List.mem_map.mp ha
    have := hlt _ h
    omega
  have hP0 : va_P D cl (X ++ va_pl L f) F.heap := hP.kept (fun k9 x hx => hold x.1 ((hP k9 x hx).lt))
  have hP1 : va_P D cl ((X ++ va_pl L f) ++ [(H.size, .inl (cA, n.toNatClampNeg, .inr (.inr (.inr (.inr (fun i => if i < n.toNatClampNeg then some (H.size + 1 + i) else none))))))]) F.heap := hP0.app (fun k9 x hx => by
    have h0 : k9 < 1 := (List.getElem?_eq_some_iff.mp hx).1
    rw [show k9 = 0 by omega] at hx
    cases hx
    exact f2)
  have hP2 : va_P D cl (((X ++ va_pl L f) ++ [(H.size, .inl (cA, n.toNatClampNeg, .inr (.inr (.inr (.inr (fun i => if i < n.toNatClampNeg then some (H.size + 1 + i) else none))))))]) ++ ((List.range n.toNatClampNeg).map (fun i => H.size + 1 + i)).map (fun a => (a, .inl (cy, z)))) F.heap := hP1.app (fun k9 x hx => by
    obtain ⟨a, ha, rfl⟩ := List.mem_map.mp (List.mem_of_getElem? hx)
    obtain ⟨i, hi, rfl⟩ := List.mem_map.mp ha
    exact hrow i (List.mem_range.mp hi))
  have hD2 : va_D A (((X ++ va_pl L f) ++ [(H.size, .inl (cA, n.toNatClampNeg, .inr (.inr (.inr (.inr (fun i => if i < n.toNatClampNeg then some (H.size + 1 + i) else none))))))]) ++ ((List.range n.toNatClampNeg).map (fun i => H.size + 1 + i)).map (fun a => (a, .inl (cy, z)))) := by
    have hD1 := hD.push (e := .inl (cA, n.toNatClampNeg, .inr (.inr (.inr (.inr (fun i => if i < n.toNatClampNeg then some (H.size + 1 + i) else none)))))) hP rfl (hA _ hS.1)
    generalize hW1 : (X ++ va_pl L f) ++ [(H.size, .inl (cA, n.toNatClampNeg, .inr (.inr (.inr (.inr (fun i => if i < n.toNatClampNeg then some (H.size + 1 + i) else none))))))] = W1 at hD1 hP1 ⊢
    have hle : ∀ (k9 : Nat) (x : Nat × va_E), W1[k9]? = some x → x.1 ≤ H.size := fun k9 x hx => by
      rw [← hW1] at hx
      by_cases hl : k9 < (X ++ va_pl L f).length
      · rw [List.getElem?_append_left hl] at hx
        exact Nat.le_of_lt ((hP k9 x hx).lt)
      · rw [List.getElem?_append_right (by omega)] at hx
        have h0 : k9 - (X ++ va_pl L f).length < 1 := (List.getElem?_eq_some_iff.mp hx).1
        rw [show k9 - (X ++ va_pl L f).length = 0 by omega] at hx
        cases hx
        exact Nat.le_refl _
    have hr : ∀ (k9 : Nat) (x : Nat × va_E), (((List.range n.toNatClampNeg).map (fun i => H.size + 1 + i)).map (fun a => ((a, .inl (cy, z)) : Nat × va_E)))[k9]? = some x → x.1 = H.size + 1 + k9 := fun k9 x hx => by
      rw [List.getElem?_map, List.getElem?_map] at hx
      by_cases h9 : k9 < n.toNatClampNeg
      · rw [List.getElem?_range h9] at hx
        cases hx
        rfl
      · have hn0 : (List.range n.toNatClampNeg)[k9]? = none := List.getElem?_eq_none (by rw [List.length_range]; omega)
        rw [hn0] at hx
        cases hx
    refine ⟨fun i j x y hi hj hxy => ?_, fun k9 x hx => ?_⟩
    · by_cases h1 : i < W1.length <;> by_cases h2 : j < W1.length
      · rw [List.getElem?_append_left h1] at hi
        rw [List.getElem?_append_left h2] at hj
        exact hD1.1 i j x y hi hj hxy
      · rw [List.getElem?_append_left h1] at hi
        rw [List.getElem?_append_right (by omega)] at hj
        have := hle _ _ hi
        have := hr _ _ hj
        omega
      · rw [List.getElem?_append_right (by omega)] at hi
        rw [List.getElem?_append_left h2] at hj
        have := hle _ _ hj
        have := hr _ _ hi
        omega
      · rw [List.getElem?_append_right (by omega)] at hi hj
        have := hr _ _ hi
        have := hr _ _ hj
        omega
    · by_cases h1 : k9 < W1.length
      · rw [List.getElem?_append_left h1] at hx
        exact hD1.2 k9 x hx
      · rw [List.getElem?_append_right (by omega)] at hx
        have := hr _ _ hx
        exact hA _ (by have := hS.1; omega)
  have hAr : ArrOfT s cA (.array ty) := fun N9 z9 => by
    obtain ⟨-, k9, hk9, cm9, hkk9⟩ := (hO 0 0 0).1
    exact ⟨(fun q hq => by cases hq), k9, hk9, cm9, hkk9⟩
  have hK2 : va_K D cl (tys ++ [(cA, .array ty)]) s := ⟨hK.1, fun k9 x hx => by
    by_cases hl : k9 < tys.length
    · rw [List.getElem?_append_left hl] at hx
      exact hK.2 k9 x hx
    · rw [List.getElem?_append_right (by omega)] at hx
      have h0 : k9 - tys.length < 1 := (List.getElem?_eq_some_iff.mp hx).1
      rw [show k9 - tys.length = 0 by omega] at hx
      cases hx
      exact ⟨hAr, fA⟩⟩
  obtain ⟨t, a1, b1⟩ := kk H.size (fun i => H.size + 1 + i) cA F.heap (fun i j _ _ h => by have h9 : H.size + 1 + i = H.size + 1 + j := h; omega) hnl hK2 (by rw [← vr_rows hnm]; exact vr_lay hP2) (by rw [← vr_rows hnm]; exact vr_layD hD2) ⟨by rw [f1]; have := hS.1; omega, fun x h1 h2 => (hold x (Nat.lt_of_lt_of_le h1 hS.1)).trans (hS.2.1 x h1 h2), hS.2.2⟩ F rfl X'
  refine ⟨t, step t ?_, b1⟩
  have e : T.heap.size = H.size := by rw [hT]
  rw [e]
  exact a1
end VGM
/-! ===== END ===== -/
/-! NAMES: written by wip/whole/tools/names.py -/
theorem am_tb {w : Cond} (i : Nat) (h : tables_1[i]? = some w) : w ∈ lw_tbl := List.mem_append_right _ (List.mem_of_getElem? h)
theorem am_se (q : MethodName × Nat) (h : q ∈ lw_privs) : Cond.selects q.1.cls q.1 q.1 ∈ lw_tbl := List.mem_append_left _ (List.mem_map.mpr ⟨q, h, rfl⟩)
def R_X : String := "IndependenceRows"
def T_X : u_T := fun k => match k with
  | 0 => ("IndependenceRows", "graph", "LIndependenceRows$Graph;", true)
  | 1 => ("IndependenceRows", "kept", "LIndependenceRows$Graph;", true)
  | 2 => ("IndependenceRows", "anyKept", "Z", false)
  | 3 => ("IndependenceRows", "tables", "LIndependenceRows$Tables;", true)
  | 4 => ("IndependenceRows", "walks", "LIndependenceRows$Walks;", true)
  | 5 => ("IndependenceRows", "kin", "LIndependenceRows$Kin;", true)
  | 6 => ("IndependenceRows", "ofAll", "LIndependenceRows$Margin;", true)
  | 7 => ("IndependenceRows", "ofGiven", "LIndependenceRows$Margin;", true)
  | 8 => ("IndependenceRows", "ofOne", "LIndependenceRows$Margin;", true)
  | _ => ("IndependenceRows", "ofOther", "LIndependenceRows$Margin;", true)
def ty_X : Nat → FieldType := fun k => match k with
  | 0 => .object "IndependenceRows$Graph"
  | 1 => .object "IndependenceRows$Graph"
  | 2 => .boolean
  | 3 => .object "IndependenceRows$Tables"
  | 4 => .object "IndependenceRows$Walks"
  | 5 => .object "IndependenceRows$Kin"
  | 6 => .object "IndependenceRows$Margin"
  | 7 => .object "IndependenceRows$Margin"
  | 8 => .object "IndependenceRows$Margin"
  | _ => .object "IndependenceRows$Margin"
theorem nm_X : ∀ a, a < 10 → ∀ b, b < 10 → a ≠ b → (T_X a).2.1 ≠ (T_X b).2.1 := by decide +kernel
theorem tok_X : ∀ k, k < 10 → parseFieldDescriptor (T_X k).2.2.1 = some (ty_X k) := by decide +kernel
def R_G : String := "IndependenceRows$Graph"
def T_G : u_T := fun k => match k with
  | 0 => ("IndependenceRows$Graph", "places", "I", false)
  | 1 => ("IndependenceRows$Graph", "arcs", "I", false)
  | 2 => ("IndependenceRows$Graph", "parents", "[I", true)
  | _ => ("IndependenceRows$Graph", "children", "[I", true)
def ty_G : Nat → FieldType := fun k => match k with
  | 0 => .int
  | 1 => .int
  | 2 => .array .int
  | _ => .array .int
theorem nm_G : ∀ a, a < 4 → ∀ b, b < 4 → a ≠ b → (T_G a).2.1 ≠ (T_G b).2.1 := by decide +kernel
theorem tok_G : ∀ k, k < 4 → parseFieldDescriptor (T_G k).2.2.1 = some (ty_G k) := by decide +kernel
def R_K : String := "IndependenceRows$Kin"
def T_K : u_T := fun k => match k with
  | 0 => ("IndependenceRows$Kin", "first", "LIndependenceRows$Graph;", true)
  | 1 => ("IndependenceRows$Kin", "arcs", "I", false)
  | 2 => ("IndependenceRows$Kin", "from", "[I", true)
  | 3 => ("IndependenceRows$Kin", "to", "[I", true)
  | 4 => ("IndependenceRows$Kin", "parents", "[I", true)
  | 5 => ("IndependenceRows$Kin", "found", "I", false)
  | _ => ("IndependenceRows$Kin", "turned", "I", false)
def ty_K : Nat → FieldType := fun k => match k with
  | 0 => .object "IndependenceRows$Graph"
  | 1 => .int
  | 2 => .array .int
  | 3 => .array .int
  | 4 => .array .int
  | 5 => .int
  | _ => .int
theorem nm_K : ∀ a, a < 7 → ∀ b, b < 7 → a ≠ b → (T_K a).2.1 ≠ (T_K b).2.1 := by decide +kernel
theorem tok_K : ∀ k, k < 7 → parseFieldDescriptor (T_K k).2.2.1 = some (ty_K k) := by decide +kernel
def R_N : String := "IndependenceRows$Margin"
def T_N : u_T := fun k => match k with
  | 0 => ("IndependenceRows$Margin", "set", "I", false)
  | _ => ("IndependenceRows$Margin", "sums", "[J", true)
def ty_N : Nat → FieldType := fun k => match k with
  | 0 => .int
  | _ => .array .long
theorem nm_N : ∀ a, a < 2 → ∀ b, b < 2 → a ≠ b → (T_N a).2.1 ≠ (T_N b).2.1 := by decide +kernel
theorem tok_N : ∀ k, k < 2 → parseFieldDescriptor (T_N k).2.2.1 = some (ty_N k) := by decide +kernel
def R_T : String := "IndependenceRows$Tables"
def T_T : u_T := fun k => match k with
  | 0 => ("IndependenceRows$Tables", "eighths", "[[I", true)
  | 1 => ("IndependenceRows$Tables", "held", "I", false)
  | _ => ("IndependenceRows$Tables", "heldValues", "I", false)
def ty_T : Nat → FieldType := fun k => match k with
  | 0 => .array (.array .int)
  | 1 => .int
  | _ => .int
theorem nm_T : ∀ a, a < 3 → ∀ b, b < 3 → a ≠ b → (T_T a).2.1 ≠ (T_T b).2.1 := by decide +kernel
theorem tok_T : ∀ k, k < 3 → parseFieldDescriptor (T_T k).2.2.1 = some (ty_T k) := by decide +kernel
def R_V : String := "IndependenceRows$Walks"
def T_V : u_T := fun k => match k with
  | 0 => ("IndependenceRows$Walks", "into", "[I", true)
  | 1 => ("IndependenceRows$Walks", "outOf", "[I", true)
  | 2 => ("IndependenceRows$Walks", "given", "I", false)
  | 3 => ("IndependenceRows$Walks", "meetable", "I", false)
  | 4 => ("IndependenceRows$Walks", "nowAlong", "I", false)
  | 5 => ("IndependenceRows$Walks", "nowAgainst", "I", false)
  | 6 => ("IndependenceRows$Walks", "seenAlong", "I", false)
  | _ => ("IndependenceRows$Walks", "seenAgainst", "I", false)
def ty_V : Nat → FieldType := fun k => match k with
  | 0 => .array .int
  | 1 => .array .int
  | 2 => .int
  | 3 => .int
  | 4 => .int
  | 5 => .int
  | 6 => .int
  | _ => .int
theorem nm_V : ∀ a, a < 8 → ∀ b, b < 8 → a ≠ b → (T_V a).2.1 ≠ (T_V b).2.1 := by decide +kernel
theorem tok_V : ∀ k, k < 8 → parseFieldDescriptor (T_V k).2.2.1 = some (ty_V k) := by decide +kernel
def R_Y : String := "IndependenceRowsModel"
def T_Y : u_T := fun k => match k with
  | 0 => ("IndependenceRowsModel", "places", "I", false)
  | 1 => ("IndependenceRowsModel", "arcs", "I", false)
  | 2 => ("IndependenceRowsModel", "parents", "[I", true)
  | 3 => ("IndependenceRowsModel", "held", "[I", true)
  | 4 => ("IndependenceRowsModel", "odds", "[I", true)
  | 5 => ("IndependenceRowsModel", "isKept", "Z", false)
  | 6 => ("IndependenceRowsModel", "keptPlaces", "I", false)
  | 7 => ("IndependenceRowsModel", "kept", "[I", true)
  | 8 => ("IndependenceRowsModel", "isCounted", "Z", false)
  | 9 => ("IndependenceRowsModel", "familySize", "I", false)
  | 10 => ("IndependenceRowsModel", "settledMask", "I", false)
  | 11 => ("IndependenceRowsModel", "counted", "[I", true)
  | 12 => ("IndependenceRowsModel", "children", "[I", true)
  | 13 => ("IndependenceRowsModel", "near", "[I", true)
  | 14 => ("IndependenceRowsModel", "layer", "[I", true)
  | 15 => ("IndependenceRowsModel", "nextLayer", "[I", true)
  | 16 => ("IndependenceRowsModel", "met", "[I", true)
  | 17 => ("IndependenceRowsModel", "weights", "[J", true)
  | 18 => ("IndependenceRowsModel", "sums", "[J", true)
  | 19 => ("IndependenceRowsModel", "separates", "[Z", true)
  | 20 => ("IndependenceRowsModel", "arcFrom", "[I", true)
  | 21 => ("IndependenceRowsModel", "arcTo", "[I", true)
  | _ => ("IndependenceRowsModel", "turned", "[I", true)
def ty_Y : Nat → FieldType := fun k => match k with
  | 0 => .int
  | 1 => .int
  | 2 => .array .int
  | 3 => .array .int
  | 4 => .array .int
  | 5 => .boolean
  | 6 => .int
  | 7 => .array .int
  | 8 => .boolean
  | 9 => .int
  | 10 => .int
  | 11 => .array .int
  | 12 => .array .int
  | 13 => .array .int
  | 14 => .array .int
  | 15 => .array .int
  | 16 => .array .int
  | 17 => .array .long
  | 18 => .array .long
  | 19 => .array .boolean
  | 20 => .array .int
  | 21 => .array .int
  | _ => .array .int
theorem nm_Y : ∀ a, a < 23 → ∀ b, b < 23 → a ≠ b → (T_Y a).2.1 ≠ (T_Y b).2.1 := by decide +kernel
theorem tok_Y : ∀ k, k < 23 → parseFieldDescriptor (T_Y k).2.2.1 = some (ty_Y k) := by decide +kernel
def vwCl : List vw_C := [(R_X, T_X, 10), (R_G, T_G, 4), (R_K, T_K, 7), (R_N, T_N, 2), (R_T, T_T, 3), (R_V, T_V, 8), (R_Y, T_Y, 23)]
def m_X_init : MethodName × ByteArray × Nat × Option FieldType := (⟨"IndependenceRows", "<init>", "()V"⟩, prog_1_method_1_code, 1, none)
def m_G_init : MethodName × ByteArray × Nat × Option FieldType := (⟨"IndependenceRows$Graph", "<init>", "()V"⟩, prog_2_method_1_code, 1, none)
def m_T_init : MethodName × ByteArray × Nat × Option FieldType := (⟨"IndependenceRows$Tables", "<init>", "()V"⟩, prog_5_method_1_code, 1, none)
def m_V_init : MethodName × ByteArray × Nat × Option FieldType := (⟨"IndependenceRows$Walks", "<init>", "()V"⟩, prog_6_method_1_code, 1, none)
def m_K_init : MethodName × ByteArray × Nat × Option FieldType := (⟨"IndependenceRows$Kin", "<init>", "()V"⟩, prog_3_method_1_code, 1, none)
def m_N_init : MethodName × ByteArray × Nat × Option FieldType := (⟨"IndependenceRows$Margin", "<init>", "()V"⟩, prog_4_method_1_code, 1, none)
def m_X_clear : MethodName × ByteArray × Nat × Option FieldType := (⟨"IndependenceRows", "clear", "()I"⟩, prog_1_method_2_code, 2, some .int)
def m_G_empty : MethodName × ByteArray × Nat × Option FieldType := (⟨"IndependenceRows$Graph", "empty", "()V"⟩, prog_2_method_2_code, 1, none)
def m_A_fillI : MethodName × ByteArray × Nat × Option FieldType := (⟨"java/util/Arrays", "fill", "([II)V"⟩, prog_11_method_103_code, 4, none)
def m_T_releaseAll : MethodName × ByteArray × Nat × Option FieldType := (⟨"IndependenceRows$Tables", "releaseAll", "()V"⟩, prog_5_method_3_code, 1, none)
def m_X_place : MethodName × ByteArray × Nat × Option FieldType := (⟨"IndependenceRows", "place", "()I"⟩, prog_1_method_3_code, 2, some .int)
def m_T_startRows : MethodName × ByteArray × Nat × Option FieldType := (⟨"IndependenceRows$Tables", "startRows", "(I)V"⟩, prog_5_method_2_code, 2, none)
def m_X_arc : MethodName × ByteArray × Nat × Option FieldType := (⟨"IndependenceRows", "arc", "(II)I"⟩, prog_1_method_4_code, 3, some .int)
def m_X_isPair : MethodName × ByteArray × Nat × Option FieldType := (⟨"IndependenceRows", "isPair", "(II)Z"⟩, prog_1_method_24_code, 3, some .boolean)
def m_X_isPlace : MethodName × ByteArray × Nat × Option FieldType := (⟨"IndependenceRows", "isPlace", "(I)Z"⟩, prog_1_method_23_code, 2, some .boolean)
def m_G_neighbours : MethodName × ByteArray × Nat × Option FieldType := (⟨"IndependenceRows$Graph", "neighbours", "(I)I"⟩, prog_2_method_7_code, 2, some .int)
def m_X_has : MethodName × ByteArray × Nat × Option FieldType := (⟨"IndependenceRows", "has", "(II)Z"⟩, prog_1_method_32_code, 2, some .boolean)
def m_X_bit : MethodName × ByteArray × Nat × Option FieldType := (⟨"IndependenceRows", "bit", "(I)I"⟩, prog_1_method_31_code, 1, some .int)
def m_X_closure : MethodName × ByteArray × Nat × Option FieldType := (⟨"IndependenceRows", "closure", "([II)I"⟩, prog_1_method_34_code, 5, some .int)
def m_X_union : MethodName × ByteArray × Nat × Option FieldType := (⟨"IndependenceRows", "union", "([II)I"⟩, prog_1_method_33_code, 4, some .int)
def m_G_join : MethodName × ByteArray × Nat × Option FieldType := (⟨"IndependenceRows$Graph", "join", "(II)V"⟩, prog_2_method_4_code, 3, none)
def m_X_cut : MethodName × ByteArray × Nat × Option FieldType := (⟨"IndependenceRows", "cut", "(II)I"⟩, prog_1_method_5_code, 3, some .int)
def m_G_part : MethodName × ByteArray × Nat × Option FieldType := (⟨"IndependenceRows$Graph", "part", "(II)V"⟩, prog_2_method_5_code, 3, none)
def m_X_odds : MethodName × ByteArray × Nat × Option FieldType := (⟨"IndependenceRows", "odds", "(III)I"⟩, prog_1_method_6_code, 5, some .int)
def m_X_isRow : MethodName × ByteArray × Nat × Option FieldType := (⟨"IndependenceRows", "isRow", "(II)Z"⟩, prog_1_method_27_code, 3, some .boolean)
def m_G_rows : MethodName × ByteArray × Nat × Option FieldType := (⟨"IndependenceRows$Graph", "rows", "(I)I"⟩, prog_2_method_8_code, 2, some .int)
def m_I_bitCount : MethodName × ByteArray × Nat × Option FieldType := (⟨"java/lang/Integer", "bitCount", "(I)I"⟩, prog_9_method_49_code, 1, some .int)
def m_X_hold : MethodName × ByteArray × Nat × Option FieldType := (⟨"IndependenceRows", "hold", "(II)I"⟩, prog_1_method_7_code, 4, some .int)
def m_T_heldAt : MethodName × ByteArray × Nat × Option FieldType := (⟨"IndependenceRows$Tables", "heldAt", "(I)I"⟩, prog_5_method_5_code, 2, some .int)
def m_T_setHeld : MethodName × ByteArray × Nat × Option FieldType := (⟨"IndependenceRows$Tables", "setHeld", "(II)V"⟩, prog_5_method_4_code, 3, none)
def m_X_told : MethodName × ByteArray × Nat × Option FieldType := (⟨"IndependenceRows", "told", "(II)I"⟩, prog_1_method_8_code, 3, some .int)
def m_X_of : MethodName × ByteArray × Nat × Option FieldType := (⟨"IndependenceRows", "of", "(II)I"⟩, prog_1_method_9_code, 3, some .int)
def m_V_lookAt : MethodName × ByteArray × Nat × Option FieldType := (⟨"IndependenceRows$Walks", "lookAt", "(LIndependenceRows$Graph;II)V"⟩, prog_6_method_2_code, 5, none)
def m_V_below : MethodName × ByteArray × Nat × Option FieldType := (⟨"IndependenceRows$Walks", "below", "(I)I"⟩, prog_6_method_3_code, 2, some .int)
def m_X_separated : MethodName × ByteArray × Nat × Option FieldType := (⟨"IndependenceRows", "separated", "(III)I"⟩, prog_1_method_10_code, 4, some .int)
def m_X_isQuestion : MethodName × ByteArray × Nat × Option FieldType := (⟨"IndependenceRows", "isQuestion", "(III)Z"⟩, prog_1_method_26_code, 4, some .boolean)
def m_X_isSet : MethodName × ByteArray × Nat × Option FieldType := (⟨"IndependenceRows", "isSet", "(I)Z"⟩, prog_1_method_25_code, 2, some .boolean)
def m_G_everyPlace : MethodName × ByteArray × Nat × Option FieldType := (⟨"IndependenceRows$Graph", "everyPlace", "()I"⟩, prog_2_method_6_code, 1, some .int)
def m_V_shortest : MethodName × ByteArray × Nat × Option FieldType := (⟨"IndependenceRows$Walks", "shortest", "(III)I"⟩, prog_6_method_4_code, 5, some .int)
def m_V_start : MethodName × ByteArray × Nat × Option FieldType := (⟨"IndependenceRows$Walks", "start", "(II)V"⟩, prog_6_method_6_code, 3, none)
def m_V_step : MethodName × ByteArray × Nat × Option FieldType := (⟨"IndependenceRows$Walks", "step", "()V"⟩, prog_6_method_7_code, 4, none)
def m_X_answer : MethodName × ByteArray × Nat × Option FieldType := (⟨"IndependenceRows", "answer", "(Z)I"⟩, prog_1_method_30_code, 1, some .int)
def m_X_walk : MethodName × ByteArray × Nat × Option FieldType := (⟨"IndependenceRows", "walk", "(III)I"⟩, prog_1_method_11_code, 4, some .int)
def m_X_weight : MethodName × ByteArray × Nat × Option FieldType := (⟨"IndependenceRows", "weight", "(II)J"⟩, prog_1_method_12_code, 7, some .long)
def m_T_product : MethodName × ByteArray × Nat × Option FieldType := (⟨"IndependenceRows$Tables", "product", "(LIndependenceRows$Graph;I)J"⟩, prog_5_method_6_code, 6, some .long)
def m_T_factor : MethodName × ByteArray × Nat × Option FieldType := (⟨"IndependenceRows$Tables", "factor", "(LIndependenceRows$Graph;II)I"⟩, prog_5_method_7_code, 5, some .int)
def m_T_rowIn : MethodName × ByteArray × Nat × Option FieldType := (⟨"IndependenceRows$Tables", "rowIn", "(II)I"⟩, prog_5_method_8_code, 5, some .int)
def m_X_independent : MethodName × ByteArray × Nat × Option FieldType := (⟨"IndependenceRows", "independent", "(III)I"⟩, prog_1_method_13_code, 4, some .int)
def m_X_leastDifference : MethodName × ByteArray × Nat × Option FieldType := (⟨"IndependenceRows", "leastDifference", "(III)I"⟩, prog_1_method_28_code, 9, some .int)
def m_N_start : MethodName × ByteArray × Nat × Option FieldType := (⟨"IndependenceRows$Margin", "start", "(I)V"⟩, prog_4_method_2_code, 2, none)
def m_A_fillJ : MethodName × ByteArray × Nat × Option FieldType := (⟨"java/util/Arrays", "fill", "([JJ)V"⟩, prog_11_method_101_code, 5, none)
def m_N_add : MethodName × ByteArray × Nat × Option FieldType := (⟨"IndependenceRows$Margin", "add", "(IJ)V"⟩, prog_4_method_3_code, 4, none)
def m_N_sum : MethodName × ByteArray × Nat × Option FieldType := (⟨"IndependenceRows$Margin", "sum", "(I)J"⟩, prog_4_method_4_code, 2, some .long)
def m_X_differ : MethodName × ByteArray × Nat × Option FieldType := (⟨"IndependenceRows", "differ", "(III)I"⟩, prog_1_method_14_code, 4, some .int)
def m_X_blanket : MethodName × ByteArray × Nat × Option FieldType := (⟨"IndependenceRows", "blanket", "(I)I"⟩, prog_1_method_15_code, 2, some .int)
def m_X_fewest : MethodName × ByteArray × Nat × Option FieldType := (⟨"IndependenceRows", "fewest", "(III)I"⟩, prog_1_method_29_code, 8, some .int)
def m_V_reached : MethodName × ByteArray × Nat × Option FieldType := (⟨"IndependenceRows$Walks", "reached", "(II)I"⟩, prog_6_method_5_code, 4, some .int)
def m_X_least : MethodName × ByteArray × Nat × Option FieldType := (⟨"IndependenceRows", "least", "(II)I"⟩, prog_1_method_16_code, 3, some .int)
def m_X_enough : MethodName × ByteArray × Nat × Option FieldType := (⟨"IndependenceRows", "enough", "(III)I"⟩, prog_1_method_17_code, 4, some .int)
def m_X_keep : MethodName × ByteArray × Nat × Option FieldType := (⟨"IndependenceRows", "keep", "()I"⟩, prog_1_method_18_code, 1, some .int)
def m_G_copy : MethodName × ByteArray × Nat × Option FieldType := (⟨"IndependenceRows$Graph", "copy", "(LIndependenceRows$Graph;)V"⟩, prog_2_method_3_code, 2, none)
def m_X_alike : MethodName × ByteArray × Nat × Option FieldType := (⟨"IndependenceRows", "alike", "()I"⟩, prog_1_method_19_code, 1, some .int)
def m_G_tellsTheSameAs : MethodName × ByteArray × Nat × Option FieldType := (⟨"IndependenceRows$Graph", "tellsTheSameAs", "(LIndependenceRows$Graph;)Z"⟩, prog_2_method_10_code, 4, some .boolean)
def m_G_strangers : MethodName × ByteArray × Nat × Option FieldType := (⟨"IndependenceRows$Graph", "strangers", "(II)I"⟩, prog_2_method_9_code, 3, some .int)
def m_X_settled : MethodName × ByteArray × Nat × Option FieldType := (⟨"IndependenceRows", "settled", "(II)I"⟩, prog_1_method_20_code, 3, some .int)
def m_K_explore : MethodName × ByteArray × Nat × Option FieldType := (⟨"IndependenceRows$Kin", "explore", "(LIndependenceRows$Graph;)V"⟩, prog_3_method_2_code, 2, none)
def m_K_listArcs : MethodName × ByteArray × Nat × Option FieldType := (⟨"IndependenceRows$Kin", "listArcs", "()V"⟩, prog_3_method_3_code, 3, none)
def m_K_direct : MethodName × ByteArray × Nat × Option FieldType := (⟨"IndependenceRows$Kin", "direct", "(II)V"⟩, prog_3_method_5_code, 5, none)
def m_K_directOne : MethodName × ByteArray × Nat × Option FieldType := (⟨"IndependenceRows$Kin", "directOne", "(IIII)V"⟩, prog_3_method_6_code, 5, none)
def m_K_meetsAsFirst : MethodName × ByteArray × Nat × Option FieldType := (⟨"IndependenceRows$Kin", "meetsAsFirst", "(II)Z"⟩, prog_3_method_7_code, 4, some .boolean)
def m_K_isTurned : MethodName × ByteArray × Nat × Option FieldType := (⟨"IndependenceRows$Kin", "isTurned", "(II)Z"⟩, prog_3_method_4_code, 4, some .boolean)
def m_X_family : MethodName × ByteArray × Nat × Option FieldType := (⟨"IndependenceRows", "family", "()I"⟩, prog_1_method_21_code, 1, some .int)
def m_X_count : MethodName × ByteArray × Nat × Option FieldType := (⟨"IndependenceRows", "count", "(I)I"⟩, prog_1_method_22_code, 2, some .int)
def m_Y_init : MethodName × ByteArray × Nat × Option FieldType := (⟨"IndependenceRowsModel", "<init>", "()V"⟩, prog_8_method_1_code, 1, none)
def m_Y_begin : MethodName × ByteArray × Nat × Option FieldType := (⟨"IndependenceRowsModel", "begin", "()V"⟩, prog_8_method_2_code, 2, none)
def m_Y_clear : MethodName × ByteArray × Nat × Option FieldType := (⟨"IndependenceRowsModel", "clear", "()I"⟩, prog_8_method_3_code, 2, some .int)
def m_Y_place : MethodName × ByteArray × Nat × Option FieldType := (⟨"IndependenceRowsModel", "place", "()I"⟩, prog_8_method_9_code, 2, some .int)
def m_Y_evenOdds : MethodName × ByteArray × Nat × Option FieldType := (⟨"IndependenceRowsModel", "evenOdds", "(I)V"⟩, prog_8_method_8_code, 3, none)
def m_Y_arc : MethodName × ByteArray × Nat × Option FieldType := (⟨"IndependenceRowsModel", "arc", "(II)I"⟩, prog_8_method_11_code, 3, some .int)
def m_Y_isPlace : MethodName × ByteArray × Nat × Option FieldType := (⟨"IndependenceRowsModel", "isPlace", "(I)Z"⟩, prog_8_method_4_code, 2, some .boolean)
def m_Y_aboveOf : MethodName × ByteArray × Nat × Option FieldType := (⟨"IndependenceRowsModel", "aboveOf", "([II)I"⟩, prog_8_method_10_code, 6, some .int)
def m_Y_cut : MethodName × ByteArray × Nat × Option FieldType := (⟨"IndependenceRowsModel", "cut", "(II)I"⟩, prog_8_method_13_code, 3, some .int)
def m_Y_isArc : MethodName × ByteArray × Nat × Option FieldType := (⟨"IndependenceRowsModel", "isArc", "(II)Z"⟩, prog_8_method_12_code, 3, some .boolean)
def m_Y_odds : MethodName × ByteArray × Nat × Option FieldType := (⟨"IndependenceRowsModel", "odds", "(III)I"⟩, prog_8_method_15_code, 5, some .int)
def m_Y_isRow : MethodName × ByteArray × Nat × Option FieldType := (⟨"IndependenceRowsModel", "isRow", "(II)Z"⟩, prog_8_method_14_code, 3, some .boolean)
def m_Y_many : MethodName × ByteArray × Nat × Option FieldType := (⟨"IndependenceRowsModel", "many", "(I)I"⟩, prog_8_method_7_code, 3, some .int)
def m_Y_hold : MethodName × ByteArray × Nat × Option FieldType := (⟨"IndependenceRowsModel", "hold", "(II)I"⟩, prog_8_method_16_code, 4, some .int)
def m_Y_told : MethodName × ByteArray × Nat × Option FieldType := (⟨"IndependenceRowsModel", "told", "(II)I"⟩, prog_8_method_17_code, 3, some .int)
def m_Y_of : MethodName × ByteArray × Nat × Option FieldType := (⟨"IndependenceRowsModel", "of", "(II)I"⟩, prog_8_method_20_code, 5, some .int)
def m_Y_countArcs : MethodName × ByteArray × Nat × Option FieldType := (⟨"IndependenceRowsModel", "countArcs", "(I)V"⟩, prog_8_method_18_code, 4, none)
def m_Y_belowOf : MethodName × ByteArray × Nat × Option FieldType := (⟨"IndependenceRowsModel", "belowOf", "(I)I"⟩, prog_8_method_19_code, 2, some .int)
def m_Y_separated : MethodName × ByteArray × Nat × Option FieldType := (⟨"IndependenceRowsModel", "separated", "(III)I"⟩, prog_8_method_22_code, 4, some .int)
def m_Y_isAsked : MethodName × ByteArray × Nat × Option FieldType := (⟨"IndependenceRowsModel", "isAsked", "(III)Z"⟩, prog_8_method_6_code, 4, some .boolean)
def m_Y_isSet : MethodName × ByteArray × Nat × Option FieldType := (⟨"IndependenceRowsModel", "isSet", "(I)Z"⟩, prog_8_method_5_code, 2, some .boolean)
def m_Y_isSeparated : MethodName × ByteArray × Nat × Option FieldType := (⟨"IndependenceRowsModel", "isSeparated", "([IIII)Z"⟩, prog_8_method_21_code, 9, some .boolean)
def m_Y_walk : MethodName × ByteArray × Nat × Option FieldType := (⟨"IndependenceRowsModel", "walk", "(III)I"⟩, prog_8_method_23_code, 10, some .int)
def m_Y_children2 : MethodName × ByteArray × Nat × Option FieldType := (⟨"IndependenceRowsModel", "children2", "(II)I"⟩, prog_8_method_24_code, 3, some .int)
def m_Y_weight : MethodName × ByteArray × Nat × Option FieldType := (⟨"IndependenceRowsModel", "weight", "(II)J"⟩, prog_8_method_26_code, 6, some .long)
def m_Y_weigh : MethodName × ByteArray × Nat × Option FieldType := (⟨"IndependenceRowsModel", "weigh", "()V"⟩, prog_8_method_25_code, 9, none)
def m_Y_independent : MethodName × ByteArray × Nat × Option FieldType := (⟨"IndependenceRowsModel", "independent", "(III)I"⟩, prog_8_method_28_code, 4, some .int)
def m_Y_hangs : MethodName × ByteArray × Nat × Option FieldType := (⟨"IndependenceRowsModel", "hangs", "(III)I"⟩, prog_8_method_27_code, 8, some .int)
def m_Y_differ : MethodName × ByteArray × Nat × Option FieldType := (⟨"IndependenceRowsModel", "differ", "(III)I"⟩, prog_8_method_29_code, 4, some .int)
def m_Y_blanket : MethodName × ByteArray × Nat × Option FieldType := (⟨"IndependenceRowsModel", "blanket", "(I)I"⟩, prog_8_method_30_code, 7, some .int)
def m_Y_least : MethodName × ByteArray × Nat × Option FieldType := (⟨"IndependenceRowsModel", "least", "(II)I"⟩, prog_8_method_31_code, 6, some .int)
def m_Y_enough : MethodName × ByteArray × Nat × Option FieldType := (⟨"IndependenceRowsModel", "enough", "(III)I"⟩, prog_8_method_32_code, 4, some .int)
def m_Y_keep : MethodName × ByteArray × Nat × Option FieldType := (⟨"IndependenceRowsModel", "keep", "()I"⟩, prog_8_method_33_code, 2, some .int)
def m_Y_alike : MethodName × ByteArray × Nat × Option FieldType := (⟨"IndependenceRowsModel", "alike", "()I"⟩, prog_8_method_36_code, 1, some .int)
def m_Y_learn : MethodName × ByteArray × Nat × Option FieldType := (⟨"IndependenceRowsModel", "learn", "()V"⟩, prog_8_method_34_code, 5, none)
def m_Y_tellsAlike : MethodName × ByteArray × Nat × Option FieldType := (⟨"IndependenceRowsModel", "tellsAlike", "([I)Z"⟩, prog_8_method_35_code, 6, some .boolean)
def m_Y_settled : MethodName × ByteArray × Nat × Option FieldType := (⟨"IndependenceRowsModel", "settled", "(II)I"⟩, prog_8_method_40_code, 6, some .int)
def m_Y_countFamily : MethodName × ByteArray × Nat × Option FieldType := (⟨"IndependenceRowsModel", "countFamily", "()V"⟩, prog_8_method_39_code, 6, none)
def m_Y_listArcs : MethodName × ByteArray × Nat × Option FieldType := (⟨"IndependenceRowsModel", "listArcs", "()I"⟩, prog_8_method_37_code, 4, some .int)
def m_Y_hasNoRing : MethodName × ByteArray × Nat × Option FieldType := (⟨"IndependenceRowsModel", "hasNoRing", "()Z"⟩, prog_8_method_38_code, 4, some .boolean)
def m_Y_family : MethodName × ByteArray × Nat × Option FieldType := (⟨"IndependenceRowsModel", "family", "()I"⟩, prog_8_method_41_code, 1, some .int)
def m_Y_count : MethodName × ByteArray × Nat × Option FieldType := (⟨"IndependenceRowsModel", "count", "(I)I"⟩, prog_8_method_42_code, 4, some .int)
def m_L_law : MethodName × ByteArray × Nat × Option FieldType := (x, code, maxLocals, ret)
end
section
/-! PURE ROWS: sets of places as numbers, over nI -/
theorem pu_and (a b : Nat) : nI a &&& nI b = nI (a &&& b) := by
  apply Int32.toBitVec_inj.1
  show BitVec.ofNat 32 a &&& BitVec.ofNat 32 b = BitVec.ofNat 32 (a &&& b)
  apply BitVec.eq_of_getLsbD_eq
  intro i hi
  simp [hi]
theorem pu_or (a b : Nat) : nI a ||| nI b = nI (a ||| b) := by
  apply Int32.toBitVec_inj.1
  show BitVec.ofNat 32 a ||| BitVec.ofNat 32 b = BitVec.ofNat 32 (a ||| b)
  apply BitVec.eq_of_getLsbD_eq
  intro i hi
  simp [hi]
theorem pu_xor (a b : Nat) : nI a ^^^ nI b = nI (a ^^^ b) := by
  apply Int32.toBitVec_inj.1
  show BitVec.ofNat 32 a ^^^ BitVec.ofNat 32 b = BitVec.ofNat 32 (a ^^^ b)
  apply BitVec.eq_of_getLsbD_eq
  intro i hi
  simp [hi]
/-- those of a that are not in b -/
def pu_dif (a b : Nat) : Nat := a &&& (b ^^^ 4294967295)
theorem pu_m1 : (-1 : Int32) = nI 4294967295 := by decide +kernel
theorem pu_not (a b : Nat) : nI a &&& (nI b ^^^ (-1)) = nI (pu_dif a b) := by
  rw [pu_m1, pu_xor, pu_and]
  rfl
theorem pu_dif_bit {a b i : Nat} (hi : i < 32) : (pu_dif a b).testBit i = (a.testBit i && !b.testBit i) := by
  unfold pu_dif
  rw [Nat.testBit_and, Nat.testBit_xor, show (4294967295 : Nat) = 2 ^ 32 - 1 from rfl, Nat.testBit_two_pow_sub_one]
  simp [hi]
theorem pu_dif_le (a b : Nat) : pu_dif a b ≤ a := Nat.and_le_left
theorem pu_sh : ∀ n, n < 32 → ((nI n &&& 31).toBitVec.smod 32).toNat = n := by decide +kernel
theorem pu_bit : ∀ i, i < 31 → (1 : Int32) <<< (nI i &&& 31) = nI (2 ^ i) := by decide +kernel
def pu_b (b : Bool) : Int32 := if b then 1 else 0
theorem pu_b0 {b : Bool} : pu_b b = 0 ↔ b = false := by cases b <;> decide
theorem pu_has {m i : Nat} (hm : m < 2 ^ 31) (hi : i < 32) : (nI m >>> (nI i &&& 31)) &&& 1 = pu_b (m.testBit i) := by
  rw [pk_shrN hm _ i (pu_sh i hi)]
  show nI (m / 2 ^ i) &&& nI 1 = _
  rw [pu_and, Nat.and_one_is_mod, Nat.testBit_eq_decide_div_mod_eq]
  by_cases h : m / 2 ^ i % 2 = 1
  · rw [h]; rfl
  · rw [show m / 2 ^ i % 2 = 0 by omega]; rfl
theorem pu_nI_inj {a b : Nat} (ha : a < 2 ^ 31) (hb : b < 2 ^ 31) (h : nI a = nI b) : a = b := (nI_eq ha hb).mp h
/-- a row of numbers, one of them written -/
def pu_set (g : Nat → Nat) (j x : Nat) : Nat → Nat := fun i => if i = j then x else g i
theorem pu_upd (g : Nat → Nat) (j x : Nat) : upd (fun i => nI (g i)) j (nI x) = fun i => nI (pu_set g j x i) := by
  funext i
  unfold upd pu_set
  by_cases h : i = j
  · simp [h]
  · simp [h]
theorem pu_set_eq {g : Nat → Nat} {j x : Nat} : pu_set g j x j = x := by simp [pu_set]
theorem pu_set_ne {g : Nat → Nat} {i j x : Nat} (h : i ≠ j) : pu_set g j x i = g i := by simp [pu_set, h]
/-- counting up: what holds at n, and at i if at i + 1, holds at all -/
theorem pu_up {P : Nat → Prop} {n : Nat} (hn : P n) (hs : ∀ i, i < n → P (i + 1) → P i) : ∀ i, i ≤ n → P i := by
  intro i hi
  obtain ⟨k, rfl⟩ : ∃ k, n = i + k := ⟨n - i, by omega⟩
  induction k generalizing i with
  | zero => exact hn
  | succ k ih => exact hs i (by omega) (ih (i := i + 1) (by rw [show i + 1 + k = i + (k + 1) by omega]; exact hn) (fun j hj => hs j (by omega)) (by omega))
/-- the union of the sets g i, i in m, i below k -/
def pu_un (g : Nat → Nat) (m : Nat) : Nat → Nat
  | 0 => 0
  | k + 1 => if m.testBit k then pu_un g m k ||| g k else pu_un g m k
theorem pu_un_bit {g : Nat → Nat} {m : Nat} : ∀ {k j : Nat}, (pu_un g m k).testBit j = true ↔ ∃ i, i < k ∧ m.testBit i = true ∧ (g i).testBit j = true
  | 0, j => by
    unfold pu_un
    rw [Nat.zero_testBit]
    exact ⟨fun h => absurd h (by simp), fun ⟨i, h, _⟩ => absurd h (Nat.not_lt_zero _)⟩
  | k + 1, j => by
    unfold pu_un
    by_cases hk : m.testBit k = true
    · rw [if_pos hk, Nat.testBit_or, Bool.or_eq_true, pu_un_bit]
      constructor
      · rintro (⟨i, h1, h2⟩ | h)
        · exact ⟨i, by omega, h2⟩
        · exact ⟨k, by omega, hk, h⟩
      · rintro ⟨i, h1, h2, h3⟩
        rcases Nat.lt_or_ge i k with h | h
        · exact Or.inl ⟨i, h, h2, h3⟩
        · rw [show i = k by omega] at h3
          exact Or.inr h3
    · rw [if_neg hk, pu_un_bit]
      constructor
      · rintro ⟨i, h1, h2⟩
        exact ⟨i, by omega, h2⟩
      · rintro ⟨i, h1, h2, h3⟩
        rcases Nat.lt_or_ge i k with h | h
        · exact ⟨i, h, h2, h3⟩
        · rw [show i = k by omega] at h2
          exact absurd h2 hk
theorem pu_un_lt {g : Nat → Nat} {m n : Nat} (hg : ∀ i, g i < 2 ^ n) : ∀ k, pu_un g m k < 2 ^ n
  | 0 => Nat.two_pow_pos n
  | k + 1 => by
    unfold pu_un
    by_cases hk : m.testBit k = true
    · rw [if_pos hk]; exact Nat.or_lt_two_pow (pu_un_lt hg k) (hg k)
    · rw [if_neg hk]; exact pu_un_lt hg k
/-- closing a set under g, r rounds, over n sets -/
def pu_cl (g : Nat → Nat) (n : Nat) : Nat → Nat → Nat
  | 0, a => a
  | r + 1, a => if a ||| pu_un g a n = a then a else pu_cl g n r (a ||| pu_un g a n)
end
section
/-! THE LOGIC OF WORLDS: a cell is known by its number (the order in which the run made it); am_Wp says that a method's walk from here ends as F says. Every rule below is one instruction. -/
/-- a method: its name, its bytes, its locals, what it answers -/
abbrev am_M : Type := MethodName × ByteArray × Nat × Option FieldType
/-- a cell: an array (the number of its kind, its contents) or an object (the number of its sort, its fields) -/
abbrev am_C : Type := (Nat × vp_A) ⊕ (Nat × List Value)
abbrev am_W : Type := List am_C
abbrev am_L : Type := List (Nat × Value)
/-- the kinds of arrays -/
def am_tys (tc : Nat → ClassId) : List (ClassId × FieldType) := [(tc 0, .int), (tc 1, .long), (tc 2, .boolean), (tc 3, .array .int)]
def am_cv (r : Nat → Nat) (v : Value) : Value := match v with
  | .ref a => .ref (r (a + 1))
  | .retAddr _ => .ref (r 0)
  | .int x => .int x
  | .long x => .long x
  | .float x => .float x
  | .double x => .double x
  | .null => .null
def am_ca (r : Nat → Nat) (a : vp_A) : vp_A := match a with
  | (n, .inr (.inr (.inr (.inr f)))) => (n, .inr (.inr (.inr (.inr (fun j => (f j).map (fun a => r (a + 1)))))))
  | (n, .inl f) => (n, .inl f)
  | (n, .inr (.inl f)) => (n, .inr (.inl f))
  | (n, .inr (.inr (.inl f))) => (n, .inr (.inr (.inl f)))
  | (n, .inr (.inr (.inr (.inl f)))) => (n, .inr (.inr (.inr (.inl f))))
def am_ce (tc : Nat → ClassId) (r : Nat → Nat) (c : am_C) : va_E := match c with
  | .inl (t, a) => .inl (tc t, am_ca r a)
  | .inr (i, fs) => .inr (i, fs.map (am_cv r))
def am_cw (tc : Nat → ClassId) (r : Nat → Nat) (w : am_W) : va_W := w.mapIdx (fun i c => (r (i + 1), am_ce tc r c))
def am_cl (r : Nat → Nat) (ls : am_L) : List (Nat × Value) := ls.map (fun q => (q.1, am_cv r q.2))
/-- no reference beyond n -/
def am_wv (n : Nat) (v : Value) : Prop := match v with
  | .ref a => a < n
  | _ => True
def am_ws (n : Nat) : List Value → Prop
  | [] => True
  | v :: l => am_wv n v ∧ am_ws n l
def am_wl (n : Nat) : am_L → Prop
  | [] => True
  | q :: l => am_wv n q.2 ∧ am_wl n l
def am_wa (n : Nat) (a : vp_A) : Prop := match a with
  | (_, .inr (.inr (.inr (.inr f)))) => ∀ j b, f j = some b → b < n
  | _ => True
def am_wc (n : Nat) (c : am_C) : Prop := match c with
  | .inl (_, a) => am_wa n a
  | .inr (_, fs) => am_ws n fs
def am_ww (w : am_W) : Prop := ∀ (i : Nat) (c : am_C), w[i]? = some c → am_wc w.length c
def am_wo (n : Nat) (v : Option Value) : Prop := ∀ x, v = some x → am_wv n x
theorem am_wv_mono {n k : Nat} (h : n ≤ k) {v : Value} (hv : am_wv n v) : am_wv k v := by
  cases v <;> first | exact trivial | exact Nat.lt_of_lt_of_le hv h
theorem am_ws_mono {n k : Nat} (h : n ≤ k) : ∀ {l : List Value}, am_ws n l → am_ws k l
  | [], _ => trivial
  | _ :: _, q => ⟨am_wv_mono h q.1, am_ws_mono h q.2⟩
theorem am_wl_mono {n k : Nat} (h : n ≤ k) : ∀ {l : am_L}, am_wl n l → am_wl k l
  | [], _ => trivial
  | _ :: _, q => ⟨am_wv_mono h q.1, am_wl_mono h q.2⟩
theorem am_wa_mono {n k : Nat} (h : n ≤ k) {a : vp_A} (ha : am_wa n a) : am_wa k a := by
  obtain ⟨m, f | f | f | f | f⟩ := a
  · exact trivial
  · exact trivial
  · exact trivial
  · exact trivial
  · exact fun j b q => Nat.lt_of_lt_of_le (ha j b q) h
theorem am_wc_mono {n k : Nat} (h : n ≤ k) {c : am_C} (hc : am_wc n c) : am_wc k c := by
  obtain ⟨t, a⟩ | ⟨i, fs⟩ := c
  · exact am_wa_mono h hc
  · exact am_ws_mono h hc
theorem am_ws_app {n : Nat} : ∀ {l k : List Value}, am_ws n l → am_ws n k → am_ws n (l ++ k)
  | [], _, _, h => h
  | _ :: _, _, h, g => ⟨h.1, am_ws_app h.2 g⟩
theorem am_ws_r {n : Nat} : ∀ {l k : List Value}, am_ws n (l ++ k) → am_ws n k
  | [], _, h => h
  | _ :: _, _, h => am_ws_r h.2
theorem am_ws_l {n : Nat} : ∀ {l k : List Value}, am_ws n (l ++ k) → am_ws n l
  | [], _, _ => trivial
  | _ :: _, _, h => ⟨h.1, am_ws_l h.2⟩
theorem am_ws_mem {n : Nat} : ∀ {l : List Value} {v : Value}, am_ws n l → v ∈ l → am_wv n v
  | _ :: _, _, h, hv => by
    rcases List.mem_cons.mp hv with rfl | hv
    · exact h.1
    · exact am_ws_mem h.2 hv
theorem am_ws_of {n : Nat} : ∀ {l : List Value}, (∀ v, v ∈ l → am_wv n v) → am_ws n l
  | [], _ => trivial
  | _ :: _, h => ⟨h _ List.mem_cons_self, am_ws_of (fun v hv => h v (List.mem_cons_of_mem _ hv))⟩
theorem am_ws_rev {n : Nat} {l : List Value} (h : am_ws n l.reverse) : am_ws n l :=
  am_ws_of (fun v hv => am_ws_mem h (List.mem_reverse.mpr hv))
theorem am_wl_mem {n : Nat} : ∀ {l : am_L} {q : Nat × Value}, am_wl n l → q ∈ l → am_wv n q.2
  | _ :: _, _, h, hv => by
    rcases List.mem_cons.mp hv with rfl | hv
    · exact h.1
    · exact am_wl_mem h.2 hv
theorem am_wl_of {n : Nat} : ∀ {l : am_L}, (∀ q, q ∈ l → am_wv n q.2) → am_wl n l
  | [], _ => trivial
  | _ :: _, h => ⟨h _ List.mem_cons_self, am_wl_of (fun v hv => h v (List.mem_cons_of_mem _ hv))⟩
theorem am_wl_args {n : Nat} : ∀ {l : List Value} (i : Nat), am_ws n l → am_wl n (lv_args i l)
  | [], _, _ => trivial
  | _ :: _, _, h => ⟨h.1, am_wl_args _ h.2⟩
/-! another naming that agrees below n -/
theorem am_cv_ext {n : Nat} {r r1 : Nat → Nat} (h : ∀ a, a ≤ n → r1 a = r a) {v : Value} (hv : am_wv n v) : am_cv r1 v = am_cv r v := by
  cases v <;> first | rfl | exact congrArg Value.ref (h _ (Nat.zero_le _)) | exact congrArg Value.ref (h _ hv)
theorem am_cs_ext {n : Nat} {r r1 : Nat → Nat} (h : ∀ a, a ≤ n → r1 a = r a) : ∀ {l : List Value}, am_ws n l → l.map (am_cv r1) = l.map (am_cv r)
  | [], _ => rfl
  | v :: l, q => by rw [List.map_cons, List.map_cons, am_cv_ext h q.1, am_cs_ext h q.2]
theorem am_cl_ext {n : Nat} {r r1 : Nat → Nat} (h : ∀ a, a ≤ n → r1 a = r a) : ∀ {l : am_L}, am_wl n l → am_cl r1 l = am_cl r l
  | [], _ => rfl
  | v :: l, q => by
    show (v.1, am_cv r1 v.2) :: am_cl r1 l = (v.1, am_cv r v.2) :: am_cl r l
    rw [am_cv_ext h q.1, am_cl_ext h q.2]
theorem am_ce_ext {tc : Nat → ClassId} {n : Nat} {r r1 : Nat → Nat} (h : ∀ a, a ≤ n → r1 a = r a) {c : am_C} (hc : am_wc n c) : am_ce tc r1 c = am_ce tc r c := by
  obtain ⟨t, m, f | f | f | f | f⟩ | ⟨i, fs⟩ := c
  · rfl
  · rfl
  · rfl
  · rfl
  · show Sum.inl (tc t, am_ca r1 _) = Sum.inl (tc t, am_ca r _)
    have e : (fun j => (f j).map (fun a => r1 (a + 1))) = (fun j => (f j).map (fun a => r (a + 1))) := by
      funext j
      cases hj : f j with
      | none => rfl
      | some b => exact congrArg some (h _ (hc j b hj))
    simp only [am_ca, e]
  · show Sum.inr (i, fs.map (am_cv r1)) = Sum.inr (i, fs.map (am_cv r))
    rw [am_cs_ext h hc]
theorem am_cw_at {tc : Nat → ClassId} {r : Nat → Nat} {w : am_W} {i : Nat} {c : am_C} (h : w[i]? = some c) : (am_cw tc r w)[i]? = some (r (i + 1), am_ce tc r c) := by
  unfold am_cw
  rw [List.getElem?_mapIdx, h]
  rfl
theorem am_cw_of {tc : Nat → ClassId} {r : Nat → Nat} {w : am_W} {i : Nat} {x : Nat × va_E} (h : (am_cw tc r w)[i]? = some x) : ∃ c, w[i]? = some c ∧ x = (r (i + 1), am_ce tc r c) := by
  unfold am_cw at h
  rw [List.getElem?_mapIdx] at h
  cases hc : w[i]? with
  | none => rw [hc] at h; cases h
  | some c => rw [hc] at h; exact ⟨c, rfl, (Option.some.inj h).symm⟩
theorem am_cw_ext {tc : Nat → ClassId} {r r1 : Nat → Nat} {w : am_W} (h : ∀ a, a ≤ w.length → r1 a = r a) (hw : am_ww w) : am_cw tc r1 w = am_cw tc r w := by
  apply List.ext_getElem?
  intro i
  cases hc : w[i]? with
  | none =>
    unfold am_cw
    rw [List.getElem?_mapIdx, List.getElem?_mapIdx, hc]
    rfl
  | some c =>
    have hi : i < w.length := (List.getElem?_eq_some_iff.mp hc).1
    rw [am_cw_at hc, am_cw_at hc, am_ce_ext h (hw i c hc), h _ hi]
theorem am_cw_set {tc : Nat → ClassId} {r : Nat → Nat} {w : am_W} {i : Nat} {c : am_C} : am_cw tc r (w.set i c) = (am_cw tc r w).set i (r (i + 1), am_ce tc r c) := by
  apply List.ext_getElem?
  intro j
  unfold am_cw
  rw [List.getElem?_mapIdx, List.getElem?_set, List.getElem?_set, List.getElem?_mapIdx, List.length_mapIdx]
  by_cases hj : i = j
  · subst hj
    by_cases hl : i < w.length
    · simp [hl]
    · simp [hl]
  · simp [hj]
theorem am_cw_push {tc : Nat → ClassId} {r : Nat → Nat} {w : am_W} {c : am_C} : am_cw tc r (w ++ [c]) = am_cw tc r w ++ [(r (w.length + 1), am_ce tc r c)] := by
  unfold am_cw
  rw [List.mapIdx_append]
  simp
theorem am_ww_set {w : am_W} {i : Nat} {c : am_C} (h : am_ww w) (hc : am_wc w.length c) : am_ww (w.set i c) := by
  intro j x hx
  rw [List.length_set]
  rw [List.getElem?_set] at hx
  by_cases hj : i = j
  · rw [if_pos hj] at hx
    by_cases hl : i < w.length
    · rw [if_pos hl] at hx
      exact Option.some.inj hx ▸ hc
    · rw [if_neg hl] at hx; cases hx
  · rw [if_neg hj] at hx
    exact h j x hx
theorem am_ww_push {w : am_W} {c : am_C} (h : am_ww w) (hc : am_wc w.length c) : am_ww (w ++ [c]) := by
  intro j x hx
  rw [List.length_append]
  by_cases hl : j < w.length
  · rw [List.getElem?_append_left hl] at hx
    exact am_wc_mono (Nat.le_add_right _ _) (h j x hx)
  · rw [List.getElem?_append_right (Nat.not_lt.mp hl)] at hx
    have hz : j - w.length < 1 := (List.getElem?_eq_some_iff.mp hx).1
    rw [show j - w.length = 0 by omega] at hx
    exact Option.some.inj hx ▸ am_wc_mono (Nat.le_add_right _ _) hc
theorem am_ww_len {w : am_W} {i : Nat} {c : am_C} (h : w[i]? = some c) : i < w.length := (List.getElem?_eq_some_iff.mp h).1
/-! the words -/
def am_good : List Cond := lw_tbl.filter goodWord
def am_isN : Cond → Bool
  | .fieldLinkNest .. => true
  | .methodLinkNest .. => true
  | _ => false
def am_nest : List Cond := lw_tbl.filter am_isN
theorem am_in {w : Cond} (h : w ∈ lw_tbl) (g : goodWord w = true) : w ∈ am_good := List.mem_filter.mpr ⟨h, g⟩
theorem am_inN {w : Cond} (h : w ∈ lw_tbl) (g : am_isN w = true) : w ∈ am_nest := List.mem_filter.mpr ⟨h, g⟩
theorem am_goodIn {w : Cond} (h : w ∈ am_good) : w ∈ am_good ∧ ((w.onTables && w.keeps) = true ∨ ∃ ty, w = .arrayClass ty) := ⟨h, good_of_word (List.mem_filter.mp h).2⟩
theorem am_goodC {w : Cond} (h : w ∈ am_good) : GoodIn am_good (w :: am_good) := by
  intro x hx
  rcases List.mem_cons.mp hx with rfl | hx
  · exact am_goodIn h
  · exact am_goodIn hx
theorem am_Nw_onT {w : Cond} (h : am_isN w = true) : w.onTables = true := by
  cases w <;> first | (simp [am_isN] at h; done) | rfl
theorem am_Nw_warm {w : Cond} (h : am_isN w = true) {s U : State} (hW : s.WarmedH U.vm) (hZ : va_Nw w s) : va_Nw w U := by
  cases w <;> first | (simp [am_isN] at h; done) | exact va_Nw.warmF hW hZ | exact va_Nw.warmM hW hZ
/-! the surroundings -/
/-- the script: how long it is, what stands in it -/
abbrev am_S : Type := Option (Nat × (Nat → Int32))
def am_X (sc : am_S) (A : Nat → Prop) (s : State) (r : Nat → Nat) : Prop := match sc with
  | none => True
  | some (L, xs) => va_X (r 0) L xs s s.heap ∧ r 0 < s.heap.size ∧ ¬ A (r 0)
def am_Sm (sc : am_S) (tc : Nat → ClassId) (D : va_G) (A : Nat → Prop) (s : State) (r : Nat → Nat) (w : am_W) (H : Heap) (locs : List Loc) : Prop :=
  am_ww w ∧ va_P D vwCl (am_cw tc r w) H ∧ va_D A (am_cw tc r w) ∧ va_S A s.heap H locs ∧ am_X sc A s r
def am_Cx (M : am_M) (d : Nat) (tc : Nat → ClassId) (D : va_G) (A : Nat → Prop) (p : Program) (R : Room) (s : State) (m : MethodId) (args : Array Value) (meth : Method) (c : Code) : Prop :=
  p.tables.exec = Jvm.exec ∧ c.code = M.2.1 ∧ meth.sig.returnType = M.2.2.2 ∧ c.maxLocals = M.2.2.1 ∧ s.vm.findClass M.1.cls = some m.cls ∧ (∀ w ∈ am_good, w.before args s = true) ∧ (∀ w ∈ am_nest, va_Nw w s) ∧ va_K D vwCl (am_tys tc) s ∧ meth.locks = false ∧ meth.name = M.1.name ∧ (∀ q, s.heap.size ≤ q → A q) ∧ d ≤ R.frames ∧ d * 64 ≤ R.locals
/-- the instruction at pc is the method's return, and v fits it -/
def am_ret (M : am_M) (pc : Nat) (v : Option Value) : Prop :=
  (M.2.2.2 = none ∧ v = none ∧ decode M.2.1 pc = .ok (.return_, 1)) ∨
  (∃ ty x, M.2.2.2 = some ty ∧ v = some (.int x) ∧ narrow ty (.int x) = .int x ∧ decode M.2.1 pc = .ok (.ireturn, 1)) ∨
  (∃ x, M.2.2.2 = some .long ∧ v = some (.long x) ∧ decode M.2.1 pc = .ok (.lreturn, 1)) ∨
  (∃ ty a, M.2.2.2 = some ty ∧ ((∃ n, ty = .object n) ∨ ∃ t, ty = .array t) ∧ v = some (.ref a) ∧ decode M.2.1 pc = .ok (.areturn, 1))
def am_End (sc : am_S) (M : am_M) (p : Program) (l : Launch) (e : Env) (R : Room) (s : State) (m : MethodId) (args : Array Value) (below : List Frame) (meth : Method) (c : Code) (Q : State → Prop) (tc : Nat → ClassId) (D : va_G) (A : Nat → Prop) (mc ms : Nat) (r : Nat → Nat) (n : Nat) (F : Option Value → am_W → Prop) : Prop :=
  ∀ (v : Option Value) (w1 : am_W) (r1 : Nat → Nat) (H1 : Heap) (locs1 : List Loc) (cells1 slots1 pc1 : Nat) (sl1 : Array Slot), F v w1 → am_Sm sc tc D A s r1 w1 H1 locs1 → (∀ a, a ≤ n → r1 a = r a) → n ≤ w1.length → am_wo w1.length v → cells1 ≤ mc → slots1 ≤ ms → am_ret M pc1 v →
    W p l e R s m args below meth c H1 locs1 cells1 slots1 Q (F0 m pc1 sl1 ((v.map (am_cv r1)).toList))
/-- the walk of M from pc, with these locals, this stack, this world: it ends, and F says how; it makes at most bc cells of bs slots, and calls at most d deep -/
def am_Wp (sc : am_S) (M : am_M) (d bc bs pc : Nat) (ls : am_L) (st : List Value) (w : am_W) (F : Option Value → am_W → Prop) : Prop :=
  ∀ (p : Program) (l : Launch) (e : Env) (R : Room) (s : State) (m : MethodId) (args : Array Value) (below : List Frame) (meth : Method) (c : Code) (Q : State → Prop) (tc : Nat → ClassId) (D : va_G) (A : Nat → Prop),
    am_Cx M d tc D A p R s m args meth c → ∀ (r : Nat → Nat) (H : Heap) (locs : List Loc) (cells slots mc ms : Nat) (sl : Array Slot), am_Sm sc tc D A s r w H locs → lv_has sl M.2.2.1 (am_cl r ls) → am_wl w.length ls → am_ws w.length st → cells + bc ≤ mc → slots + bs ≤ ms → mc ≤ R.cells → ms ≤ R.slots →
    am_End sc M p l e R s m args below meth c Q tc D A mc ms r w.length F →
    W p l e R s m args below meth c H locs cells slots Q (F0 m pc sl (st.map (am_cv r)))
end
section
/-! THE RULES: one instruction each -/
theorem am_pure {sc : am_S} {M : am_M} {d bc bs pc q : Nat} {ls : am_L} {st st' : List Value} {w : am_W} {F : Option Value → am_W → Prop} (k : am_Wp sc M d bc bs q ls st' w F) (hst : ∀ n, am_wl n ls → am_ws n st → am_ws n st')
    (hW : ∀ (p : Program) (l : Launch) (e : Env) (R : Room) (s : State) (m : MethodId) (args : Array Value) (below : List Frame) (meth : Method) (c : Code) (H : Heap) (locs : List Loc) (cells slots : Nat) (Q : State → Prop) (r : Nat → Nat) (sl : Array Slot), p.tables.exec = Jvm.exec → c.code = M.2.1 → lv_has sl M.2.2.1 (am_cl r ls) → s.vm.findClass M.1.cls = some m.cls → (∀ x ∈ am_good, x.before args s = true) → W p l e R s m args below meth c H locs cells slots Q (F0 m q sl (st'.map (am_cv r))) → W p l e R s m args below meth c H locs cells slots Q (F0 m pc sl (st.map (am_cv r)))) : am_Wp sc M d bc bs pc ls st w F := by
  intro p l e R s m args below meth c Q tc D A C r H locs cells slots mc ms sl hS hl wl ws h1 h2 h3 h4 hE
  exact hW p l e R s m args below meth c H locs cells slots Q r sl C.1 C.2.1 hl C.2.2.2.2.1 C.2.2.2.2.2.1 (k p l e R s m args below meth c Q tc D A C r H locs cells slots mc ms sl hS hl wl (hst _ wl ws) h1 h2 h3 h4 hE)
/-- the value of a local -/
def am_get (i : Nat) : am_L → Option Value
  | [] => none
  | q :: l => if q.1 = i then some q.2 else am_get i l
theorem am_get_mem {i : Nat} {v : Value} : ∀ {l : am_L}, am_get i l = some v → (i, v) ∈ l
  | q :: l, h => by
    unfold am_get at h
    by_cases hq : q.1 = i
    · rw [if_pos hq] at h
      rw [← hq, ← Option.some.inj h]
      exact List.mem_cons_self
    · rw [if_neg hq] at h
      exact List.mem_cons_of_mem _ (am_get_mem h)
theorem am_get_at {i : Nat} {v : Value} {l : am_L} {r : Nat → Nat} {sl : Array Slot} {n : Nat} (h : am_get i l = some v) (hl : lv_has sl n (am_cl r l)) : sl[i]? = some (.val (am_cv r v)) :=
  hl.2.2 (i, am_cv r v) (List.mem_map.mpr ⟨(i, v), am_get_mem h, rfl⟩)
theorem am_get_w {i n : Nat} {v : Value} {l : am_L} (h : am_get i l = some v) (hl : am_wl n l) : am_wv n v := am_wl_mem hl (am_get_mem h)
/-- a local is written -/
def am_kp (i : Nat) (v : Value) (q : Nat × Value) : Bool := !(q.1 == i) && (!(v.category == 2 && q.1 == i + 1) && !(q.1 + 1 == i && q.2.category == 2))
def am_ins (i : Nat) (v : Value) : am_L → am_L
  | [] => [(i, v)]
  | q :: l => if q.1 < i then q :: am_ins i v l else (i, v) :: q :: l
def am_sto (i : Nat) (v : Value) (l : am_L) : am_L := am_ins i v (l.filter (am_kp i v))
theorem am_ins_mem {i : Nat} {v : Value} {q : Nat × Value} : ∀ {l : am_L}, q ∈ am_ins i v l → q = (i, v) ∨ q ∈ l
  | [], h => Or.inl (List.mem_singleton.mp h)
  | x :: l, h => by
    unfold am_ins at h
    by_cases hx : x.1 < i
    · rw [if_pos hx] at h
      rcases List.mem_cons.mp h with rfl | h
      · exact Or.inr List.mem_cons_self
      · rcases am_ins_mem h with h | h
        · exact Or.inl h
        · exact Or.inr (List.mem_cons_of_mem _ h)
    · rw [if_neg hx] at h
      rcases List.mem_cons.mp h with rfl | h
      · exact Or.inl rfl
      · exact Or.inr h
theorem am_sto_mem {i : Nat} {v : Value} {l : am_L} {q : Nat × Value} (h : q ∈ am_sto i v l) : q = (i, v) ∨ (q ∈ l ∧ am_kp i v q = true) := by
  rcases am_ins_mem h with h | h
  · exact Or.inl h
  · exact Or.inr (List.mem_filter.mp h)
theorem am_cv_cat (r : Nat → Nat) (v : Value) : (am_cv r v).category = v.category := by cases v <;> rfl
theorem am_sto_w {i n : Nat} {v : Value} {l : am_L} (hl : am_wl n l) (hv : am_wv n v) : am_wl n (am_sto i v l) := by
  refine am_wl_of (fun q hq => ?_)
  rcases am_sto_mem hq with rfl | ⟨h, -⟩
  · exact hv
  · exact am_wl_mem hl h
theorem am_sto1 {i n : Nat} {v : Value} {l : am_L} {r : Nat → Nat} {sl : Array Slot} (h : lv_has sl n ((i, am_cv r v) :: (am_cl r l).filter (fun q => !(q.1 == i) && !(q.1 + 1 == i && q.2.category == 2)))) : lv_has sl n (am_cl r (am_sto i v l)) := by
  refine ⟨h.1, h.2.1, fun q hq => h.2.2 q ?_⟩
  obtain ⟨x, hx, rfl⟩ := List.mem_map.mp hq
  rcases am_sto_mem hx with rfl | ⟨h1, h2⟩
  · exact List.mem_cons_self
  · refine List.mem_cons_of_mem _ (List.mem_filter.mpr ⟨List.mem_map.mpr ⟨x, h1, rfl⟩, ?_⟩)
    simp only [am_kp, Bool.and_eq_true] at h2
    simp only [am_cv_cat, Bool.and_eq_true]
    exact ⟨h2.1, h2.2.2⟩
theorem am_sto2 {i n : Nat} {v : Value} {l : am_L} {r : Nat → Nat} {sl : Array Slot} (hv : v.category = 2) (h : lv_has sl n ((i, am_cv r v) :: (am_cl r l).filter (fun q => !(q.1 == i) && (!(q.1 == i + 1) && !(q.1 + 1 == i && q.2.category == 2))))) : lv_has sl n (am_cl r (am_sto i v l)) := by
  refine ⟨h.1, h.2.1, fun q hq => h.2.2 q ?_⟩
  obtain ⟨x, hx, rfl⟩ := List.mem_map.mp hq
  rcases am_sto_mem hx with rfl | ⟨h1, h2⟩
  · exact List.mem_cons_self
  · refine List.mem_cons_of_mem _ (List.mem_filter.mpr ⟨List.mem_map.mpr ⟨x, h1, rfl⟩, ?_⟩)
    simp only [am_kp, Bool.and_eq_true, hv, beq_self_eq_true, Bool.true_and] at h2
    simp only [am_cv_cat, Bool.and_eq_true]
    exact ⟨h2.1, h2.2.1, h2.2.2⟩
section Rules
variable {sc : am_S} {M : am_M} {d bc bs pc q : Nat} {ls : am_L} {st : List Value} {w : am_W} {F : Option Value → am_W → Prop}
theorem wp_iconst {n : Int} {v : Int32} (hd : decode M.2.1 pc = .ok (.iconst n, 1)) (hq : pc + 1 = q) (hv : Int32.ofInt n = v) (k : am_Wp sc M d bc bs q ls (.int v :: st) w F) : am_Wp sc M d bc bs pc ls (st) w F := by
  subst hq
  exact am_pure k (fun n wl ws => ⟨trivial, ws⟩) (fun p l e R s m args below meth c H locs cells slots Q r sl hx hb hl ho ht kk => lv_iconst hx hb hd hv kk)
theorem wp_bipush {n : Int} {v : Int32} (hd : decode M.2.1 pc = .ok (.bipush n, 2)) (hq : pc + 2 = q) (hv : (Int8.ofInt n).toInt32 = v) (k : am_Wp sc M d bc bs q ls (.int v :: st) w F) : am_Wp sc M d bc bs pc ls (st) w F := by
  subst hq
  exact am_pure k (fun n wl ws => ⟨trivial, ws⟩) (fun p l e R s m args below meth c H locs cells slots Q r sl hx hb hl ho ht kk => lv_bipush hx hb hd hv kk)
theorem wp_sipush {n : Int} {v : Int32} (hd : decode M.2.1 pc = .ok (.sipush n, 3)) (hq : pc + 3 = q) (hv : (Int16.ofInt n).toInt32 = v) (k : am_Wp sc M d bc bs q ls (.int v :: st) w F) : am_Wp sc M d bc bs pc ls (st) w F := by
  subst hq
  exact am_pure k (fun n wl ws => ⟨trivial, ws⟩) (fun p l e R s m args below meth c H locs cells slots Q r sl hx hb hl ho ht kk => lv_sipush hx hb hd hv kk)
theorem wp_lconst {n : Fin 2} {v : Int64} (hd : decode M.2.1 pc = .ok (.lconst n, 1)) (hq : pc + 1 = q) (hv : Int64.ofNat (n : Nat) = v) (k : am_Wp sc M d bc bs q ls (.long v :: st) w F) : am_Wp sc M d bc bs pc ls (st) w F := by
  subst hq
  exact am_pure k (fun n wl ws => ⟨trivial, ws⟩) (fun p l e R s m args below meth c H locs cells slots Q r sl hx hb hl ho ht kk => lv_lconst hx hb hd hv kk)
theorem wp_ldc {ix : Nat} {v : Int32} (hd : decode M.2.1 pc = .ok (.ldc ix, 2)) (hq : pc + 2 = q) (hc : Cond.constant M.1.cls ix v ∈ lw_tbl) (k : am_Wp sc M d bc bs q ls (.int v :: st) w F) : am_Wp sc M d bc bs pc ls (st) w F := by
  subst hq
  exact am_pure k (fun n wl ws => ⟨trivial, ws⟩) (fun p l e R s m args below meth c H locs cells slots Q r sl hx hb hl ho ht kk => lv_ldc hx hb ho (ht _ (am_in hc rfl)) hd kk)
theorem wp_ldc2 {ix : Nat} {v : Int64} (hd : decode M.2.1 pc = .ok (.ldc2_w ix, 3)) (hq : pc + 3 = q) (hc : Cond.constantLong M.1.cls ix v ∈ lw_tbl) (k : am_Wp sc M d bc bs q ls (.long v :: st) w F) : am_Wp sc M d bc bs pc ls (st) w F := by
  subst hq
  exact am_pure k (fun n wl ws => ⟨trivial, ws⟩) (fun p l e R s m args below meth c H locs cells slots Q r sl hx hb hl ho ht kk => lv_ldc2 hx hb ho (ht _ (am_in hc rfl)) hd kk)
theorem wp_iload_n {j : Fin 4} {i : Nat} {x : Int32} (hd : decode M.2.1 pc = .ok (.iload_n j, 1)) (hq : pc + 1 = q) (hi : (j : Nat) = i) (hv : am_get i ls = some (.int x)) (k : am_Wp sc M d bc bs q ls (.int x :: st) w F) : am_Wp sc M d bc bs pc ls (st) w F := by
  subst hq
  exact am_pure k (fun n wl ws => ⟨trivial, ws⟩) (fun p l e R s m args below meth c H locs cells slots Q r sl hx hb hl ho ht kk => lv_iload_n hx hb hd hi (am_get_at hv hl) kk)
theorem wp_iload {i : Nat} {x : Int32} (hd : decode M.2.1 pc = .ok (.iload i, 2)) (hq : pc + 2 = q) (hv : am_get i ls = some (.int x)) (k : am_Wp sc M d bc bs q ls (.int x :: st) w F) : am_Wp sc M d bc bs pc ls (st) w F := by
  subst hq
  exact am_pure k (fun n wl ws => ⟨trivial, ws⟩) (fun p l e R s m args below meth c H locs cells slots Q r sl hx hb hl ho ht kk => lv_iload hx hb hd (am_get_at hv hl) kk)
theorem wp_lload_n {j : Fin 4} {i : Nat} {x : Int64} (hd : decode M.2.1 pc = .ok (.lload_n j, 1)) (hq : pc + 1 = q) (hi : (j : Nat) = i) (hv : am_get i ls = some (.long x)) (k : am_Wp sc M d bc bs q ls (.long x :: st) w F) : am_Wp sc M d bc bs pc ls (st) w F := by
  subst hq
  exact am_pure k (fun n wl ws => ⟨trivial, ws⟩) (fun p l e R s m args below meth c H locs cells slots Q r sl hx hb hl ho ht kk => lv_lload_n hx hb hd hi (am_get_at hv hl) kk)
theorem wp_lload {i : Nat} {x : Int64} (hd : decode M.2.1 pc = .ok (.lload i, 2)) (hq : pc + 2 = q) (hv : am_get i ls = some (.long x)) (k : am_Wp sc M d bc bs q ls (.long x :: st) w F) : am_Wp sc M d bc bs pc ls (st) w F := by
  subst hq
  exact am_pure k (fun n wl ws => ⟨trivial, ws⟩) (fun p l e R s m args below meth c H locs cells slots Q r sl hx hb hl ho ht kk => lv_lload hx hb hd (am_get_at hv hl) kk)
theorem wp_aload_n {j : Fin 4} {i a : Nat} (hd : decode M.2.1 pc = .ok (.aload_n j, 1)) (hq : pc + 1 = q) (hi : (j : Nat) = i) (hv : am_get i ls = some (.ref a)) (k : am_Wp sc M d bc bs q ls (.ref a :: st) w F) : am_Wp sc M d bc bs pc ls (st) w F := by
  subst hq
  exact am_pure k (fun n wl ws => ⟨am_get_w hv wl, ws⟩) (fun p l e R s m args below meth c H locs cells slots Q r sl hx hb hl ho ht kk => lv_aload_n hx hb hd hi (am_get_at hv hl) kk)
theorem wp_aload {i a : Nat} (hd : decode M.2.1 pc = .ok (.aload i, 2)) (hq : pc + 2 = q) (hv : am_get i ls = some (.ref a)) (k : am_Wp sc M d bc bs q ls (.ref a :: st) w F) : am_Wp sc M d bc bs pc ls (st) w F := by
  subst hq
  exact am_pure k (fun n wl ws => ⟨am_get_w hv wl, ws⟩) (fun p l e R s m args below meth c H locs cells slots Q r sl hx hb hl ho ht kk => lv_aload hx hb hd (am_get_at hv hl) kk)
theorem wp_aload_nX {j : Fin 4} {i a : Nat} (hd : decode M.2.1 pc = .ok (.aload_n j, 1)) (hq : pc + 1 = q) (hi : (j : Nat) = i) (hv : am_get i ls = some (.retAddr a)) (k : am_Wp sc M d bc bs q ls (.retAddr a :: st) w F) : am_Wp sc M d bc bs pc ls (st) w F := by
  subst hq
  exact am_pure k (fun n wl ws => ⟨trivial, ws⟩) (fun p l e R s m args below meth c H locs cells slots Q r sl hx hb hl ho ht kk => lv_aload_n hx hb hd hi (am_get_at hv hl) kk)
theorem wp_iadd {x y : Int32} (hd : decode M.2.1 pc = .ok (.iadd, 1)) (hq : pc + 1 = q) (k : am_Wp sc M d bc bs q ls (.int (x + y) :: st) w F) : am_Wp sc M d bc bs pc ls (.int y :: .int x :: st) w F := by
  subst hq
  exact am_pure k (fun n wl ws => ⟨trivial, ws.2.2⟩) (fun p l e R s m args below meth c H locs cells slots Q r sl hx hb hl ho ht kk => lv_iadd hx hb hd kk)
theorem wp_isub {x y : Int32} (hd : decode M.2.1 pc = .ok (.isub, 1)) (hq : pc + 1 = q) (k : am_Wp sc M d bc bs q ls (.int (x - y) :: st) w F) : am_Wp sc M d bc bs pc ls (.int y :: .int x :: st) w F := by
  subst hq
  exact am_pure k (fun n wl ws => ⟨trivial, ws.2.2⟩) (fun p l e R s m args below meth c H locs cells slots Q r sl hx hb hl ho ht kk => lv_isub hx hb hd kk)
theorem wp_imul {x y : Int32} (hd : decode M.2.1 pc = .ok (.imul, 1)) (hq : pc + 1 = q) (k : am_Wp sc M d bc bs q ls (.int (x * y) :: st) w F) : am_Wp sc M d bc bs pc ls (.int y :: .int x :: st) w F := by
  subst hq
  exact am_pure k (fun n wl ws => ⟨trivial, ws.2.2⟩) (fun p l e R s m args below meth c H locs cells slots Q r sl hx hb hl ho ht kk => lv_imul hx hb hd kk)
theorem wp_iand {x y : Int32} (hd : decode M.2.1 pc = .ok (.iand, 1)) (hq : pc + 1 = q) (k : am_Wp sc M d bc bs q ls (.int (x &&& y) :: st) w F) : am_Wp sc M d bc bs pc ls (.int y :: .int x :: st) w F := by
  subst hq
  exact am_pure k (fun n wl ws => ⟨trivial, ws.2.2⟩) (fun p l e R s m args below meth c H locs cells slots Q r sl hx hb hl ho ht kk => lv_iand hx hb hd kk)
theorem wp_ior {x y : Int32} (hd : decode M.2.1 pc = .ok (.ior, 1)) (hq : pc + 1 = q) (k : am_Wp sc M d bc bs q ls (.int (x ||| y) :: st) w F) : am_Wp sc M d bc bs pc ls (.int y :: .int x :: st) w F := by
  subst hq
  exact am_pure k (fun n wl ws => ⟨trivial, ws.2.2⟩) (fun p l e R s m args below meth c H locs cells slots Q r sl hx hb hl ho ht kk => lv_ior hx hb hd kk)
theorem wp_ixor {x y : Int32} (hd : decode M.2.1 pc = .ok (.ixor, 1)) (hq : pc + 1 = q) (k : am_Wp sc M d bc bs q ls (.int (x ^^^ y) :: st) w F) : am_Wp sc M d bc bs pc ls (.int y :: .int x :: st) w F := by
  subst hq
  exact am_pure k (fun n wl ws => ⟨trivial, ws.2.2⟩) (fun p l e R s m args below meth c H locs cells slots Q r sl hx hb hl ho ht kk => lv_ixor hx hb hd kk)
theorem wp_ishl {x y : Int32} (hd : decode M.2.1 pc = .ok (.ishl, 1)) (hq : pc + 1 = q) (k : am_Wp sc M d bc bs q ls (.int (x <<< (y &&& 31)) :: st) w F) : am_Wp sc M d bc bs pc ls (.int y :: .int x :: st) w F := by
  subst hq
  exact am_pure k (fun n wl ws => ⟨trivial, ws.2.2⟩) (fun p l e R s m args below meth c H locs cells slots Q r sl hx hb hl ho ht kk => lv_ishl hx hb hd kk)
theorem wp_ishr {x y : Int32} (hd : decode M.2.1 pc = .ok (.ishr, 1)) (hq : pc + 1 = q) (k : am_Wp sc M d bc bs q ls (.int (x >>> (y &&& 31)) :: st) w F) : am_Wp sc M d bc bs pc ls (.int y :: .int x :: st) w F := by
  subst hq
  exact am_pure k (fun n wl ws => ⟨trivial, ws.2.2⟩) (fun p l e R s m args below meth c H locs cells slots Q r sl hx hb hl ho ht kk => lv_ishr hx hb hd kk)
theorem wp_iushr {x y : Int32} (hd : decode M.2.1 pc = .ok (.iushr, 1)) (hq : pc + 1 = q) (k : am_Wp sc M d bc bs q ls (.int ((x.toUInt32 >>> (y.toUInt32 &&& Int32.toUInt32 31)).toInt32) :: st) w F) : am_Wp sc M d bc bs pc ls (.int y :: .int x :: st) w F := by
  subst hq
  exact am_pure k (fun n wl ws => ⟨trivial, ws.2.2⟩) (fun p l e R s m args below meth c H locs cells slots Q r sl hx hb hl ho ht kk => lv_iushr hx hb hd rfl kk)
theorem wp_ineg {x : Int32} (hd : decode M.2.1 pc = .ok (.ineg, 1)) (hq : pc + 1 = q) (k : am_Wp sc M d bc bs q ls (.int (-x) :: st) w F) : am_Wp sc M d bc bs pc ls (.int x :: st) w F := by
  subst hq
  exact am_pure k (fun n wl ws => ⟨trivial, ws.2⟩) (fun p l e R s m args below meth c H locs cells slots Q r sl hx hb hl ho ht kk => lv_ineg hx hb hd kk)
theorem wp_idiv {x y : Int32} (hd : decode M.2.1 pc = .ok (.idiv, 1)) (hq : pc + 1 = q) (hne : ¬ y = 0) (k : am_Wp sc M d bc bs q ls (.int (x / y) :: st) w F) : am_Wp sc M d bc bs pc ls (.int y :: .int x :: st) w F := by
  subst hq
  exact am_pure k (fun n wl ws => ⟨trivial, ws.2.2⟩) (fun p l e R s m args below meth c H locs cells slots Q r sl hx hb hl ho ht kk => lv_idiv hx hb hd hne kk)
theorem wp_irem {x y : Int32} (hd : decode M.2.1 pc = .ok (.irem, 1)) (hq : pc + 1 = q) (hne : ¬ y = 0) (k : am_Wp sc M d bc bs q ls (.int (x - x / y * y) :: st) w F) : am_Wp sc M d bc bs pc ls (.int y :: .int x :: st) w F := by
  subst hq
  exact am_pure k (fun n wl ws => ⟨trivial, ws.2.2⟩) (fun p l e R s m args below meth c H locs cells slots Q r sl hx hb hl ho ht kk => lv_irem hx hb hd hne kk)
theorem wp_ladd {x y : Int64} (hd : decode M.2.1 pc = .ok (.ladd, 1)) (hq : pc + 1 = q) (k : am_Wp sc M d bc bs q ls (.long (x + y) :: st) w F) : am_Wp sc M d bc bs pc ls (.long y :: .long x :: st) w F := by
  subst hq
  exact am_pure k (fun n wl ws => ⟨trivial, ws.2.2⟩) (fun p l e R s m args below meth c H locs cells slots Q r sl hx hb hl ho ht kk => lv_ladd hx hb hd kk)
theorem wp_lsub {x y : Int64} (hd : decode M.2.1 pc = .ok (.lsub, 1)) (hq : pc + 1 = q) (k : am_Wp sc M d bc bs q ls (.long (x - y) :: st) w F) : am_Wp sc M d bc bs pc ls (.long y :: .long x :: st) w F := by
  subst hq
  exact am_pure k (fun n wl ws => ⟨trivial, ws.2.2⟩) (fun p l e R s m args below meth c H locs cells slots Q r sl hx hb hl ho ht kk => lv_lsub hx hb hd kk)
theorem wp_lmul {x y : Int64} (hd : decode M.2.1 pc = .ok (.lmul, 1)) (hq : pc + 1 = q) (k : am_Wp sc M d bc bs q ls (.long (x * y) :: st) w F) : am_Wp sc M d bc bs pc ls (.long y :: .long x :: st) w F := by
  subst hq
  exact am_pure k (fun n wl ws => ⟨trivial, ws.2.2⟩) (fun p l e R s m args below meth c H locs cells slots Q r sl hx hb hl ho ht kk => lv_lmul hx hb hd kk)
theorem wp_land {x y : Int64} (hd : decode M.2.1 pc = .ok (.land, 1)) (hq : pc + 1 = q) (k : am_Wp sc M d bc bs q ls (.long (x &&& y) :: st) w F) : am_Wp sc M d bc bs pc ls (.long y :: .long x :: st) w F := by
  subst hq
  exact am_pure k (fun n wl ws => ⟨trivial, ws.2.2⟩) (fun p l e R s m args below meth c H locs cells slots Q r sl hx hb hl ho ht kk => lv_land hx hb hd kk)
theorem wp_lor {x y : Int64} (hd : decode M.2.1 pc = .ok (.lor, 1)) (hq : pc + 1 = q) (k : am_Wp sc M d bc bs q ls (.long (x ||| y) :: st) w F) : am_Wp sc M d bc bs pc ls (.long y :: .long x :: st) w F := by
  subst hq
  exact am_pure k (fun n wl ws => ⟨trivial, ws.2.2⟩) (fun p l e R s m args below meth c H locs cells slots Q r sl hx hb hl ho ht kk => lv_lor hx hb hd kk)
theorem wp_lxor {x y : Int64} (hd : decode M.2.1 pc = .ok (.lxor, 1)) (hq : pc + 1 = q) (k : am_Wp sc M d bc bs q ls (.long (x ^^^ y) :: st) w F) : am_Wp sc M d bc bs pc ls (.long y :: .long x :: st) w F := by
  subst hq
  exact am_pure k (fun n wl ws => ⟨trivial, ws.2.2⟩) (fun p l e R s m args below meth c H locs cells slots Q r sl hx hb hl ho ht kk => lv_lxor hx hb hd kk)
theorem wp_lshl {x : Int64} {y : Int32} (hd : decode M.2.1 pc = .ok (.lshl, 1)) (hq : pc + 1 = q) (k : am_Wp sc M d bc bs q ls (.long (x <<< (y.toInt64 &&& 63)) :: st) w F) : am_Wp sc M d bc bs pc ls (.int y :: .long x :: st) w F := by
  subst hq
  exact am_pure k (fun n wl ws => ⟨trivial, ws.2.2⟩) (fun p l e R s m args below meth c H locs cells slots Q r sl hx hb hl ho ht kk => lv_lshl hx hb hd rfl kk)
theorem wp_lshr {x : Int64} {y : Int32} (hd : decode M.2.1 pc = .ok (.lshr, 1)) (hq : pc + 1 = q) (k : am_Wp sc M d bc bs q ls (.long (x >>> (y.toInt64 &&& 63)) :: st) w F) : am_Wp sc M d bc bs pc ls (.int y :: .long x :: st) w F := by
  subst hq
  exact am_pure k (fun n wl ws => ⟨trivial, ws.2.2⟩) (fun p l e R s m args below meth c H locs cells slots Q r sl hx hb hl ho ht kk => lv_lshr hx hb hd rfl kk)
theorem wp_i2l {x : Int32} (hd : decode M.2.1 pc = .ok (.i2l, 1)) (hq : pc + 1 = q) (k : am_Wp sc M d bc bs q ls (.long x.toInt64 :: st) w F) : am_Wp sc M d bc bs pc ls (.int x :: st) w F := by
  subst hq
  exact am_pure k (fun n wl ws => ⟨trivial, ws.2⟩) (fun p l e R s m args below meth c H locs cells slots Q r sl hx hb hl ho ht kk => lv_i2l hx hb hd rfl kk)
theorem wp_l2i {x : Int64} (hd : decode M.2.1 pc = .ok (.l2i, 1)) (hq : pc + 1 = q) (k : am_Wp sc M d bc bs q ls (.int x.toInt32 :: st) w F) : am_Wp sc M d bc bs pc ls (.long x :: st) w F := by
  subst hq
  exact am_pure k (fun n wl ws => ⟨trivial, ws.2⟩) (fun p l e R s m args below meth c H locs cells slots Q r sl hx hb hl ho ht kk => lv_l2i hx hb hd rfl kk)
theorem wp_lcmp {x y : Int64} (hd : decode M.2.1 pc = .ok (.lcmp, 1)) (hq : pc + 1 = q) (k : am_Wp sc M d bc bs q ls (.int (lg_cmp x y) :: st) w F) : am_Wp sc M d bc bs pc ls (.long y :: .long x :: st) w F := by
  subst hq
  exact am_pure k (fun n wl ws => ⟨trivial, ws.2.2⟩) (fun p l e R s m args below meth c H locs cells slots Q r sl hx hb hl ho ht kk => W.lcmp hx hb hd kk)
theorem wp_dup {v : Value} (hd : decode M.2.1 pc = .ok (.dup, 1)) (hq : pc + 1 = q) (hv : v.category = 1) (k : am_Wp sc M d bc bs q ls (v :: v :: st) w F) : am_Wp sc M d bc bs pc ls (v :: st) w F := by
  subst hq
  exact am_pure k (fun n wl ws => ⟨ws.1, ws⟩) (fun p l e R s m args below meth c H locs cells slots Q r sl hx hb hl ho ht kk => lv_dup hx hb hd ((am_cv_cat r v).trans hv) kk)
theorem wp_pop {v : Value} (hd : decode M.2.1 pc = .ok (.pop, 1)) (hq : pc + 1 = q) (hv : v.category = 1) (k : am_Wp sc M d bc bs q ls (st) w F) : am_Wp sc M d bc bs pc ls (v :: st) w F := by
  subst hq
  exact am_pure k (fun n wl ws => ws.2) (fun p l e R s m args below meth c H locs cells slots Q r sl hx hb hl ho ht kk => lv_pop hx hb hd ((am_cv_cat r v).trans hv) kk)
theorem wp_dup_x1 {v u : Value} (hd : decode M.2.1 pc = .ok (.dup_x1, 1)) (hq : pc + 1 = q) (hv : v.category = 1) (hu : u.category = 1) (k : am_Wp sc M d bc bs q ls (v :: u :: v :: st) w F) : am_Wp sc M d bc bs pc ls (v :: u :: st) w F := by
  subst hq
  exact am_pure k (fun n wl ws => ⟨ws.1, ws.2.1, ws.1, ws.2.2⟩) (fun p l e R s m args below meth c H locs cells slots Q r sl hx hb hl ho ht kk => lv_dup_x1 hx hb hd ((am_cv_cat r v).trans hv) ((am_cv_cat r u).trans hu) kk)
theorem wp_dup_x2 {v u t : Value} (hd : decode M.2.1 pc = .ok (.dup_x2, 1)) (hq : pc + 1 = q) (hv : v.category = 1) (hu : u.category = 1) (htt : t.category = 1) (k : am_Wp sc M d bc bs q ls (v :: u :: t :: v :: st) w F) : am_Wp sc M d bc bs pc ls (v :: u :: t :: st) w F := by
  subst hq
  exact am_pure k (fun n wl ws => ⟨ws.1, ws.2.1, ws.2.2.1, ws.1, ws.2.2.2⟩) (fun p l e R s m args below meth c H locs cells slots Q r sl hx hb hl ho ht kk => lv_dup_x2 hx hb hd ((am_cv_cat r v).trans hv) ((am_cv_cat r u).trans hu) ((am_cv_cat r t).trans htt) kk)
theorem wp_dup2 {v u : Value} (hd : decode M.2.1 pc = .ok (.dup2, 1)) (hq : pc + 1 = q) (hv : v.category = 1) (hu : u.category = 1) (k : am_Wp sc M d bc bs q ls (v :: u :: v :: u :: st) w F) : am_Wp sc M d bc bs pc ls (v :: u :: st) w F := by
  subst hq
  exact am_pure k (fun n wl ws => ⟨ws.1, ws.2.1, ws⟩) (fun p l e R s m args below meth c H locs cells slots Q r sl hx hb hl ho ht kk => lv_dup2_11 hx hb hd ((am_cv_cat r v).trans hv) ((am_cv_cat r u).trans hu) kk)
theorem wp_dup2L {v : Value} (hd : decode M.2.1 pc = .ok (.dup2, 1)) (hq : pc + 1 = q) (hv : v.category = 2) (k : am_Wp sc M d bc bs q ls (v :: v :: st) w F) : am_Wp sc M d bc bs pc ls (v :: st) w F := by
  subst hq
  exact am_pure k (fun n wl ws => ⟨ws.1, ws⟩) (fun p l e R s m args below meth c H locs cells slots Q r sl hx hb hl ho ht kk => lv_dup2_2 hx hb hd ((am_cv_cat r v).trans hv) kk)
theorem wp_pop2L {v : Value} (hd : decode M.2.1 pc = .ok (.pop2, 1)) (hq : pc + 1 = q) (hv : v.category = 2) (k : am_Wp sc M d bc bs q ls (st) w F) : am_Wp sc M d bc bs pc ls (v :: st) w F := by
  subst hq
  exact am_pure k (fun n wl ws => ws.2) (fun p l e R s m args below meth c H locs cells slots Q r sl hx hb hl ho ht kk => lv_pop2_2 hx hb hd ((am_cv_cat r v).trans hv) kk)
theorem wp_istore_n {j : Fin 4} {i : Nat} {x : Int32} {ls' : am_L} (hd : decode M.2.1 pc = .ok (.istore_n j, 1)) (hq : pc + 1 = q) (hi : (j : Nat) = i) (hn : i < M.2.2.1) (hl' : am_sto i (.int x) ls = ls') (k : am_Wp sc M d bc bs q ls' st w F) : am_Wp sc M d bc bs pc ls ((.int x) :: st) w F := by
  subst hq
  subst hl'
  intro p l e R s m args below meth c Q tc D A C r H locs cells slots mc ms sl hS hl wl ws h1 h2 h3 h4 hE
  exact lv_istore_n C.1 C.2.1 hd hi hl hn rfl (fun sl' h' => k p l e R s m args below meth c Q tc D A C r H locs cells slots mc ms sl' hS (am_sto1 h') (am_sto_w wl ws.1) ws.2 h1 h2 h3 h4 hE)
theorem wp_istore {i : Nat} {x : Int32} {ls' : am_L} (hd : decode M.2.1 pc = .ok (.istore i, 2)) (hq : pc + 2 = q) (hn : i < M.2.2.1) (hl' : am_sto i (.int x) ls = ls') (k : am_Wp sc M d bc bs q ls' st w F) : am_Wp sc M d bc bs pc ls ((.int x) :: st) w F := by
  subst hq
  subst hl'
  intro p l e R s m args below meth c Q tc D A C r H locs cells slots mc ms sl hS hl wl ws h1 h2 h3 h4 hE
  exact lv_istore C.1 C.2.1 hd hl hn rfl (fun sl' h' => k p l e R s m args below meth c Q tc D A C r H locs cells slots mc ms sl' hS (am_sto1 h') (am_sto_w wl ws.1) ws.2 h1 h2 h3 h4 hE)
theorem wp_lstore_n {j : Fin 4} {i : Nat} {x : Int64} {ls' : am_L} (hd : decode M.2.1 pc = .ok (.lstore_n j, 1)) (hq : pc + 1 = q) (hi : (j : Nat) = i) (hn : i + 1 < M.2.2.1) (hl' : am_sto i (.long x) ls = ls') (k : am_Wp sc M d bc bs q ls' st w F) : am_Wp sc M d bc bs pc ls ((.long x) :: st) w F := by
  subst hq
  subst hl'
  intro p l e R s m args below meth c Q tc D A C r H locs cells slots mc ms sl hS hl wl ws h1 h2 h3 h4 hE
  exact lv_lstore_n C.1 C.2.1 hd hi hl hn rfl (fun sl' h' => k p l e R s m args below meth c Q tc D A C r H locs cells slots mc ms sl' hS (am_sto2 rfl h') (am_sto_w wl ws.1) ws.2 h1 h2 h3 h4 hE)
theorem wp_lstore {i : Nat} {x : Int64} {ls' : am_L} (hd : decode M.2.1 pc = .ok (.lstore i, 2)) (hq : pc + 2 = q) (hn : i + 1 < M.2.2.1) (hl' : am_sto i (.long x) ls = ls') (k : am_Wp sc M d bc bs q ls' st w F) : am_Wp sc M d bc bs pc ls ((.long x) :: st) w F := by
  subst hq
  subst hl'
  intro p l e R s m args below meth c Q tc D A C r H locs cells slots mc ms sl hS hl wl ws h1 h2 h3 h4 hE
  exact lv_lstore C.1 C.2.1 hd hl hn rfl (fun sl' h' => k p l e R s m args below meth c Q tc D A C r H locs cells slots mc ms sl' hS (am_sto2 rfl h') (am_sto_w wl ws.1) ws.2 h1 h2 h3 h4 hE)
theorem wp_astore_n {j : Fin 4} {i a : Nat} {ls' : am_L} (hd : decode M.2.1 pc = .ok (.astore_n j, 1)) (hq : pc + 1 = q) (hi : (j : Nat) = i) (hn : i < M.2.2.1) (hl' : am_sto i (.ref a) ls = ls') (k : am_Wp sc M d bc bs q ls' st w F) : am_Wp sc M d bc bs pc ls ((.ref a) :: st) w F := by
  subst hq
  subst hl'
  intro p l e R s m args below meth c Q tc D A C r H locs cells slots mc ms sl hS hl wl ws h1 h2 h3 h4 hE
  exact lv_astore_n C.1 C.2.1 hd hi hl hn rfl (fun sl' h' => k p l e R s m args below meth c Q tc D A C r H locs cells slots mc ms sl' hS (am_sto1 h') (am_sto_w wl ws.1) ws.2 h1 h2 h3 h4 hE)
theorem wp_astore {i a : Nat} {ls' : am_L} (hd : decode M.2.1 pc = .ok (.astore i, 2)) (hq : pc + 2 = q) (hn : i < M.2.2.1) (hl' : am_sto i (.ref a) ls = ls') (k : am_Wp sc M d bc bs q ls' st w F) : am_Wp sc M d bc bs pc ls ((.ref a) :: st) w F := by
  subst hq
  subst hl'
  intro p l e R s m args below meth c Q tc D A C r H locs cells slots mc ms sl hS hl wl ws h1 h2 h3 h4 hE
  exact lv_astore C.1 C.2.1 hd hl hn rfl (fun sl' h' => k p l e R s m args below meth c Q tc D A C r H locs cells slots mc ms sl' hS (am_sto1 h') (am_sto_w wl ws.1) ws.2 h1 h2 h3 h4 hE)
theorem am_cl_get {i : Nat} {v : Value} {l : am_L} {r : Nat → Nat} (h : am_get i l = some v) : ∃ k : Nat, (am_cl r l)[k]? = some (i, am_cv r v) :=
  List.getElem?_of_mem (List.mem_map.mpr ⟨(i, v), am_get_mem h, rfl⟩)
theorem wp_iinc {i : Nat} {n : Int} {x v : Int32} {ls' : am_L} (hd : decode M.2.1 pc = .ok (.iinc i n, 3)) (hq : pc + 3 = q) (hg : am_get i ls = some (.int x)) (hv : x + Int32.ofInt n = v) (hn : i < M.2.2.1) (hl' : am_sto i (.int v) ls = ls') (k : am_Wp sc M d bc bs q ls' st w F) : am_Wp sc M d bc bs pc ls st w F := by
  subst hq
  subst hl'
  intro p l e R s m args below meth c Q tc D A C r H locs cells slots mc ms sl hS hl wl ws h1 h2 h3 h4 hE
  obtain ⟨k0, hk0⟩ := am_cl_get (r := r) hg
  exact lv_iinc C.1 C.2.1 hd hl hk0 hv hn rfl (fun sl' h' => k p l e R s m args below meth c Q tc D A C r H locs cells slots mc ms sl' hS (am_sto1 h') (am_sto_w wl trivial) ws h1 h2 h3 h4 hE)
theorem wp_inc1 {i : Nat} {x v : Int32} {ls' : am_L} (hd : decode M.2.1 pc = .ok (.iinc i 1, 3)) (hq : pc + 3 = q) (hg : am_get i ls = some (.int x)) (hv : x + 1 = v) (hn : i < M.2.2.1) (hl' : am_sto i (.int v) ls = ls') (k : am_Wp sc M d bc bs q ls' st w F) : am_Wp sc M d bc bs pc ls st w F :=
  wp_iinc hd hq hg (show x + Int32.ofInt 1 = v from hv) hn hl' k
theorem wp_if_eq {x : Int32} {off : Int} {tgt : Nat} (hd : decode M.2.1 pc = .ok (.ifCond .eq off, 3)) (ht : (pc : Int) + off = (tgt : Int)) (hq : pc + 3 = q) (kt : x = 0 → am_Wp sc M d bc bs tgt ls st w F) (kf : ¬ x = 0 → am_Wp sc M d bc bs q ls st w F) : am_Wp sc M d bc bs pc ls (.int x :: st) w F := by
  subst hq
  intro p l e R s m args below meth c Q tc D A C r H locs cells slots mc ms sl hS hl wl ws h1 h2 h3 h4 hE
  exact lv_if_eq C.1 C.2.1 hd ht (fun hc => kt hc p l e R s m args below meth c Q tc D A C r H locs cells slots mc ms sl hS hl wl ws.2 h1 h2 h3 h4 hE) (fun hc => kf hc p l e R s m args below meth c Q tc D A C r H locs cells slots mc ms sl hS hl wl ws.2 h1 h2 h3 h4 hE)
theorem wp_icmp_eq {x y : Int32} {off : Int} {tgt : Nat} (hd : decode M.2.1 pc = .ok (.if_icmp .eq off, 3)) (ht : (pc : Int) + off = (tgt : Int)) (hq : pc + 3 = q) (kt : x = y → am_Wp sc M d bc bs tgt ls st w F) (kf : ¬ x = y → am_Wp sc M d bc bs q ls st w F) : am_Wp sc M d bc bs pc ls (.int y :: .int x :: st) w F := by
  subst hq
  intro p l e R s m args below meth c Q tc D A C r H locs cells slots mc ms sl hS hl wl ws h1 h2 h3 h4 hE
  exact lv_icmp_eq C.1 C.2.1 hd ht (fun hc => kt hc p l e R s m args below meth c Q tc D A C r H locs cells slots mc ms sl hS hl wl ws.2.2 h1 h2 h3 h4 hE) (fun hc => kf hc p l e R s m args below meth c Q tc D A C r H locs cells slots mc ms sl hS hl wl ws.2.2 h1 h2 h3 h4 hE)
theorem wp_if_ne {x : Int32} {off : Int} {tgt : Nat} (hd : decode M.2.1 pc = .ok (.ifCond .ne off, 3)) (ht : (pc : Int) + off = (tgt : Int)) (hq : pc + 3 = q) (kt : ¬ x = 0 → am_Wp sc M d bc bs tgt ls st w F) (kf : x = 0 → am_Wp sc M d bc bs q ls st w F) : am_Wp sc M d bc bs pc ls (.int x :: st) w F := by
  subst hq
  intro p l e R s m args below meth c Q tc D A C r H locs cells slots mc ms sl hS hl wl ws h1 h2 h3 h4 hE
  exact lv_if_ne C.1 C.2.1 hd ht (fun hc => kt hc p l e R s m args below meth c Q tc D A C r H locs cells slots mc ms sl hS hl wl ws.2 h1 h2 h3 h4 hE) (fun hc => kf hc p l e R s m args below meth c Q tc D A C r H locs cells slots mc ms sl hS hl wl ws.2 h1 h2 h3 h4 hE)
theorem wp_icmp_ne {x y : Int32} {off : Int} {tgt : Nat} (hd : decode M.2.1 pc = .ok (.if_icmp .ne off, 3)) (ht : (pc : Int) + off = (tgt : Int)) (hq : pc + 3 = q) (kt : ¬ x = y → am_Wp sc M d bc bs tgt ls st w F) (kf : x = y → am_Wp sc M d bc bs q ls st w F) : am_Wp sc M d bc bs pc ls (.int y :: .int x :: st) w F := by
  subst hq
  intro p l e R s m args below meth c Q tc D A C r H locs cells slots mc ms sl hS hl wl ws h1 h2 h3 h4 hE
  exact lv_icmp_ne C.1 C.2.1 hd ht (fun hc => kt hc p l e R s m args below meth c Q tc D A C r H locs cells slots mc ms sl hS hl wl ws.2.2 h1 h2 h3 h4 hE) (fun hc => kf hc p l e R s m args below meth c Q tc D A C r H locs cells slots mc ms sl hS hl wl ws.2.2 h1 h2 h3 h4 hE)
theorem wp_if_lt {x : Int32} {off : Int} {tgt : Nat} (hd : decode M.2.1 pc = .ok (.ifCond .lt off, 3)) (ht : (pc : Int) + off = (tgt : Int)) (hq : pc + 3 = q) (kt : x < 0 → am_Wp sc M d bc bs tgt ls st w F) (kf : ¬ x < 0 → am_Wp sc M d bc bs q ls st w F) : am_Wp sc M d bc bs pc ls (.int x :: st) w F := by
  subst hq
  intro p l e R s m args below meth c Q tc D A C r H locs cells slots mc ms sl hS hl wl ws h1 h2 h3 h4 hE
  exact lv_if_lt C.1 C.2.1 hd ht (fun hc => kt hc p l e R s m args below meth c Q tc D A C r H locs cells slots mc ms sl hS hl wl ws.2 h1 h2 h3 h4 hE) (fun hc => kf hc p l e R s m args below meth c Q tc D A C r H locs cells slots mc ms sl hS hl wl ws.2 h1 h2 h3 h4 hE)
theorem wp_icmp_lt {x y : Int32} {off : Int} {tgt : Nat} (hd : decode M.2.1 pc = .ok (.if_icmp .lt off, 3)) (ht : (pc : Int) + off = (tgt : Int)) (hq : pc + 3 = q) (kt : x < y → am_Wp sc M d bc bs tgt ls st w F) (kf : ¬ x < y → am_Wp sc M d bc bs q ls st w F) : am_Wp sc M d bc bs pc ls (.int y :: .int x :: st) w F := by
  subst hq
  intro p l e R s m args below meth c Q tc D A C r H locs cells slots mc ms sl hS hl wl ws h1 h2 h3 h4 hE
  exact lv_icmp_lt C.1 C.2.1 hd ht (fun hc => kt hc p l e R s m args below meth c Q tc D A C r H locs cells slots mc ms sl hS hl wl ws.2.2 h1 h2 h3 h4 hE) (fun hc => kf hc p l e R s m args below meth c Q tc D A C r H locs cells slots mc ms sl hS hl wl ws.2.2 h1 h2 h3 h4 hE)
theorem wp_if_ge {x : Int32} {off : Int} {tgt : Nat} (hd : decode M.2.1 pc = .ok (.ifCond .ge off, 3)) (ht : (pc : Int) + off = (tgt : Int)) (hq : pc + 3 = q) (kt : 0 ≤ x → am_Wp sc M d bc bs tgt ls st w F) (kf : ¬ 0 ≤ x → am_Wp sc M d bc bs q ls st w F) : am_Wp sc M d bc bs pc ls (.int x :: st) w F := by
  subst hq
  intro p l e R s m args below meth c Q tc D A C r H locs cells slots mc ms sl hS hl wl ws h1 h2 h3 h4 hE
  exact lv_if_ge C.1 C.2.1 hd ht (fun hc => kt hc p l e R s m args below meth c Q tc D A C r H locs cells slots mc ms sl hS hl wl ws.2 h1 h2 h3 h4 hE) (fun hc => kf hc p l e R s m args below meth c Q tc D A C r H locs cells slots mc ms sl hS hl wl ws.2 h1 h2 h3 h4 hE)
theorem wp_icmp_ge {x y : Int32} {off : Int} {tgt : Nat} (hd : decode M.2.1 pc = .ok (.if_icmp .ge off, 3)) (ht : (pc : Int) + off = (tgt : Int)) (hq : pc + 3 = q) (kt : y ≤ x → am_Wp sc M d bc bs tgt ls st w F) (kf : ¬ y ≤ x → am_Wp sc M d bc bs q ls st w F) : am_Wp sc M d bc bs pc ls (.int y :: .int x :: st) w F := by
  subst hq
  intro p l e R s m args below meth c Q tc D A C r H locs cells slots mc ms sl hS hl wl ws h1 h2 h3 h4 hE
  exact lv_icmp_ge C.1 C.2.1 hd ht (fun hc => kt hc p l e R s m args below meth c Q tc D A C r H locs cells slots mc ms sl hS hl wl ws.2.2 h1 h2 h3 h4 hE) (fun hc => kf hc p l e R s m args below meth c Q tc D A C r H locs cells slots mc ms sl hS hl wl ws.2.2 h1 h2 h3 h4 hE)
theorem wp_if_gt {x : Int32} {off : Int} {tgt : Nat} (hd : decode M.2.1 pc = .ok (.ifCond .gt off, 3)) (ht : (pc : Int) + off = (tgt : Int)) (hq : pc + 3 = q) (kt : 0 < x → am_Wp sc M d bc bs tgt ls st w F) (kf : ¬ 0 < x → am_Wp sc M d bc bs q ls st w F) : am_Wp sc M d bc bs pc ls (.int x :: st) w F := by
  subst hq
  intro p l e R s m args below meth c Q tc D A C r H locs cells slots mc ms sl hS hl wl ws h1 h2 h3 h4 hE
  exact lv_if_gt C.1 C.2.1 hd ht (fun hc => kt hc p l e R s m args below meth c Q tc D A C r H locs cells slots mc ms sl hS hl wl ws.2 h1 h2 h3 h4 hE) (fun hc => kf hc p l e R s m args below meth c Q tc D A C r H locs cells slots mc ms sl hS hl wl ws.2 h1 h2 h3 h4 hE)
theorem wp_icmp_gt {x y : Int32} {off : Int} {tgt : Nat} (hd : decode M.2.1 pc = .ok (.if_icmp .gt off, 3)) (ht : (pc : Int) + off = (tgt : Int)) (hq : pc + 3 = q) (kt : y < x → am_Wp sc M d bc bs tgt ls st w F) (kf : ¬ y < x → am_Wp sc M d bc bs q ls st w F) : am_Wp sc M d bc bs pc ls (.int y :: .int x :: st) w F := by
  subst hq
  intro p l e R s m args below meth c Q tc D A C r H locs cells slots mc ms sl hS hl wl ws h1 h2 h3 h4 hE
  exact lv_icmp_gt C.1 C.2.1 hd ht (fun hc => kt hc p l e R s m args below meth c Q tc D A C r H locs cells slots mc ms sl hS hl wl ws.2.2 h1 h2 h3 h4 hE) (fun hc => kf hc p l e R s m args below meth c Q tc D A C r H locs cells slots mc ms sl hS hl wl ws.2.2 h1 h2 h3 h4 hE)
theorem wp_if_le {x : Int32} {off : Int} {tgt : Nat} (hd : decode M.2.1 pc = .ok (.ifCond .le off, 3)) (ht : (pc : Int) + off = (tgt : Int)) (hq : pc + 3 = q) (kt : x ≤ 0 → am_Wp sc M d bc bs tgt ls st w F) (kf : ¬ x ≤ 0 → am_Wp sc M d bc bs q ls st w F) : am_Wp sc M d bc bs pc ls (.int x :: st) w F := by
  subst hq
  intro p l e R s m args below meth c Q tc D A C r H locs cells slots mc ms sl hS hl wl ws h1 h2 h3 h4 hE
  exact lv_if_le C.1 C.2.1 hd ht (fun hc => kt hc p l e R s m args below meth c Q tc D A C r H locs cells slots mc ms sl hS hl wl ws.2 h1 h2 h3 h4 hE) (fun hc => kf hc p l e R s m args below meth c Q tc D A C r H locs cells slots mc ms sl hS hl wl ws.2 h1 h2 h3 h4 hE)
theorem wp_icmp_le {x y : Int32} {off : Int} {tgt : Nat} (hd : decode M.2.1 pc = .ok (.if_icmp .le off, 3)) (ht : (pc : Int) + off = (tgt : Int)) (hq : pc + 3 = q) (kt : x ≤ y → am_Wp sc M d bc bs tgt ls st w F) (kf : ¬ x ≤ y → am_Wp sc M d bc bs q ls st w F) : am_Wp sc M d bc bs pc ls (.int y :: .int x :: st) w F := by
  subst hq
  intro p l e R s m args below meth c Q tc D A C r H locs cells slots mc ms sl hS hl wl ws h1 h2 h3 h4 hE
  exact lv_icmp_le C.1 C.2.1 hd ht (fun hc => kt hc p l e R s m args below meth c Q tc D A C r H locs cells slots mc ms sl hS hl wl ws.2.2 h1 h2 h3 h4 hE) (fun hc => kf hc p l e R s m args below meth c Q tc D A C r H locs cells slots mc ms sl hS hl wl ws.2.2 h1 h2 h3 h4 hE)
theorem wp_goto {off : Int} {tgt : Nat} (hd : decode M.2.1 pc = .ok (.goto off, 3)) (ht : (pc : Int) + off = (tgt : Int)) (k : am_Wp sc M d bc bs tgt ls st w F) : am_Wp sc M d bc bs pc ls st w F :=
  am_pure k (fun n wl ws => ws) (fun p l e R s m args below meth c H locs cells slots Q r sl hx hb hl ho htt kk => lv_goto hx hb hd ht kk)
theorem wp_tableIn {dflt lo hi off : Int} {offs : Array Int} {len tgt : Nat} {x : Int32} (h1 : ¬ x.toInt < lo) (h2 : ¬ hi < x.toInt) (ho : offs[(x.toInt - lo).toNat]? = some off) (ht : (pc : Int) + off = (tgt : Int)) (hd : decode M.2.1 pc = .ok (.tableswitch dflt lo hi offs, len)) (k : am_Wp sc M d bc bs tgt ls st w F) : am_Wp sc M d bc bs pc ls (.int x :: st) w F :=
  am_pure k (fun n wl ws => ws.2) (fun p l e R s m args below meth c H locs cells slots Q r sl hx hb hl ho1 htt kk => lv_tableIn hx hb hd h1 h2 ho ht kk)
theorem wp_tableOut {dflt lo hi : Int} {offs : Array Int} {len tgt : Nat} {x : Int32} (h : x.toInt < lo ∨ hi < x.toInt) (ht : (pc : Int) + dflt = (tgt : Int)) (hd : decode M.2.1 pc = .ok (.tableswitch dflt lo hi offs, len)) (k : am_Wp sc M d bc bs tgt ls st w F) : am_Wp sc M d bc bs pc ls (.int x :: st) w F :=
  am_pure k (fun n wl ws => ws.2) (fun p l e R s m args below meth c H locs cells slots Q r sl hx hb hl ho1 htt kk => lv_tableOut hx hb hd h ht kk)
theorem am_fin {v : Option Value} (hF : F v w) (hr : am_ret M pc v) : am_Wp sc M d bc bs pc ls v.toList w F := by
  intro p l e R s m args below meth c Q tc D A C r H locs cells slots mc ms sl hS hl wl ws h1 h2 h3 h4 hE
  have hv : am_wo w.length v := fun x hx => by subst hx; exact ws.1
  have h := hE v w r H locs cells slots pc sl hF hS (fun _ _ => rfl) (Nat.le_refl _) hv (by omega) (by omega) hr
  cases v with
  | none => exact h
  | some x => exact h
theorem wp_return (hr : M.2.2.2 = none) (hd : decode M.2.1 pc = .ok (.return_, 1)) (hF : F none w) : am_Wp sc M d bc bs pc ls [] w F :=
  am_fin (v := none) hF (Or.inl ⟨hr, rfl, hd⟩)
theorem wp_ireturn {x : Int32} (hr : M.2.2.2 = some .int) (hd : decode M.2.1 pc = .ok (.ireturn, 1)) (hF : F (some (.int x)) w) : am_Wp sc M d bc bs pc ls [.int x] w F :=
  am_fin (v := some (.int x)) hF (Or.inr (Or.inl ⟨_, _, hr, rfl, rfl, hd⟩))
theorem wp_zreturn {x : Int32} (hr : M.2.2.2 = some .boolean) (hn : narrow .boolean (.int x) = .int x) (hd : decode M.2.1 pc = .ok (.ireturn, 1)) (hF : F (some (.int x)) w) : am_Wp sc M d bc bs pc ls [.int x] w F :=
  am_fin (v := some (.int x)) hF (Or.inr (Or.inl ⟨_, _, hr, rfl, hn, hd⟩))
theorem wp_lreturn {x : Int64} (hr : M.2.2.2 = some .long) (hd : decode M.2.1 pc = .ok (.lreturn, 1)) (hF : F (some (.long x)) w) : am_Wp sc M d bc bs pc ls [.long x] w F :=
  am_fin (v := some (.long x)) hF (Or.inr (Or.inr (Or.inl ⟨_, hr, rfl, hd⟩)))
theorem wp_areturn {a : Nat} {ty : FieldType} (hr : M.2.2.2 = some ty) (hty : (∃ n, ty = .object n) ∨ ∃ t, ty = .array t) (hd : decode M.2.1 pc = .ok (.areturn, 1)) (hF : F (some (.ref a)) w) : am_Wp sc M d bc bs pc ls [.ref a] w F :=
  am_fin (v := some (.ref a)) hF (Or.inr (Or.inr (Or.inr ⟨_, _, hr, hty, rfl, hd⟩)))
theorem am_tys0 (tc : Nat → ClassId) : (am_tys tc)[0]? = some (tc 0, .int) := rfl
theorem am_tys1 (tc : Nat → ClassId) : (am_tys tc)[1]? = some (tc 1, .long) := rfl
theorem am_tys2 (tc : Nat → ClassId) : (am_tys tc)[2]? = some (tc 2, .boolean) := rfl
theorem am_tys3 (tc : Nat → ClassId) : (am_tys tc)[3]? = some (tc 3, .array .int) := rfl
theorem wp_iaload {a n : Nat} {f : Nat → Int32} {i : Int32} (hd : decode M.2.1 pc = .ok (.iaload, 1)) (hq : pc + 1 = q) (hc : w[a]? = some (.inl (0, n, .inl f))) (hin : vp_in i n) (k : am_Wp sc M d bc bs q ls (.int (f i.toNatClampNeg) :: st) w F) : am_Wp sc M d bc bs pc ls (.int i :: .ref a :: st) w F := by
  subst hq
  intro p l e R s m args below meth c Q tc D A C r H locs cells slots mc ms sl hS hl wl ws h1 h2 h3 h4 hE
  exact va_iald C.1 C.2.1 C.2.2.2.2.2.2.2.1 hS.2.1 a 0 (am_cw_at hc) (am_tys0 tc) hin hd (k p l e R s m args below meth c Q tc D A C r H locs cells slots mc ms sl hS hl wl ⟨trivial, ws.2.2⟩ h1 h2 h3 h4 hE)
theorem wp_laload {a n : Nat} {f : Nat → Int64} {i : Int32} (hd : decode M.2.1 pc = .ok (.laload, 1)) (hq : pc + 1 = q) (hc : w[a]? = some (.inl (1, n, .inr (.inl f)))) (hin : vp_in i n) (k : am_Wp sc M d bc bs q ls (.long (f i.toNatClampNeg) :: st) w F) : am_Wp sc M d bc bs pc ls (.int i :: .ref a :: st) w F := by
  subst hq
  intro p l e R s m args below meth c Q tc D A C r H locs cells slots mc ms sl hS hl wl ws h1 h2 h3 h4 hE
  exact va_lald C.1 C.2.1 C.2.2.2.2.2.2.2.1 hS.2.1 a 1 (am_cw_at hc) (am_tys1 tc) hin hd (k p l e R s m args below meth c Q tc D A C r H locs cells slots mc ms sl hS hl wl ⟨trivial, ws.2.2⟩ h1 h2 h3 h4 hE)
theorem wp_zaload {a n : Nat} {f : Nat → Int32} {i : Int32} (hd : decode M.2.1 pc = .ok (.baload, 1)) (hq : pc + 1 = q) (hc : w[a]? = some (.inl (2, n, .inl f))) (hin : vp_in i n) (k : am_Wp sc M d bc bs q ls (.int (f i.toNatClampNeg) :: st) w F) : am_Wp sc M d bc bs pc ls (.int i :: .ref a :: st) w F := by
  subst hq
  intro p l e R s m args below meth c Q tc D A C r H locs cells slots mc ms sl hS hl wl ws h1 h2 h3 h4 hE
  exact va_zald C.1 C.2.1 C.2.2.2.2.2.2.2.1 hS.2.1 a 2 (am_cw_at hc) (am_tys2 tc) hin hd (k p l e R s m args below meth c Q tc D A C r H locs cells slots mc ms sl hS hl wl ⟨trivial, ws.2.2⟩ h1 h2 h3 h4 hE)
theorem wp_aaload {a n b : Nat} {f : Nat → Option Nat} {i : Int32} (hd : decode M.2.1 pc = .ok (.aaload, 1)) (hq : pc + 1 = q) (hc : w[a]? = some (.inl (3, n, .inr (.inr (.inr (.inr f)))))) (hin : vp_in i n) (hv : f i.toNatClampNeg = some b) (k : am_Wp sc M d bc bs q ls (.ref b :: st) w F) : am_Wp sc M d bc bs pc ls (.int i :: .ref a :: st) w F := by
  subst hq
  intro p l e R s m args below meth c Q tc D A C r H locs cells slots mc ms sl hS hl wl ws h1 h2 h3 h4 hE
  have hlt : i.toNatClampNeg < n := Nat.not_le.mp fun q => hin (Or.inr q)
  have hcell : H[r (a + 1)]? = some (vp_cell (tc 3) (n, .inr (.inr (.inr (.inr (fun j => (f j).map (fun a => r (a + 1)))))))) := hS.2.1 a _ (am_cw_at hc)
  have hb : b < w.length := hS.1 a _ hc _ _ hv
  refine W.aald (v := .ref (r (b + 1))) (ty := .array .int) C.1 C.2.1 hcell ((C.2.2.2.2.2.2.2.1.2 3 _ (am_tys3 tc)).1 n (fun j => va_rf ((f j).map (fun a => r (a + 1))))) rfl (fun q => by cases q) (by show ¬ (i < 0 ∨ (arrV _ _ _).slots.size ≤ _); rw [arrV_size]; exact hin) (by show (arrV _ _ _).slots[_]? = _; rw [arrV_read _ _ hlt]; show some (va_rf ((f i.toNatClampNeg).map _)) = _; rw [hv]; rfl) rfl rfl hd ?_
  exact k p l e R s m args below meth c Q tc D A C r H locs cells slots mc ms sl hS hl wl ⟨hb, ws.2.2⟩ h1 h2 h3 h4 hE
theorem wp_alen {a t n : Nat} {x : (Nat → Int32) ⊕ (Nat → Int64) ⊕ (Nat → UInt32) ⊕ (Nat → UInt64) ⊕ (Nat → Option Nat)} {v : Int32} (hd : decode M.2.1 pc = .ok (.arraylength, 1)) (hq : pc + 1 = q) (hc : w[a]? = some (.inl (t, n, x))) (ht : t < 4) (hv : Int32.ofNat n = v) (k : am_Wp sc M d bc bs q ls (.int v :: st) w F) : am_Wp sc M d bc bs pc ls (.ref a :: st) w F := by
  subst hq
  intro p l e R s m args below meth c Q tc D A C r H locs cells slots mc ms sl hS hl wl ws h1 h2 h3 h4 hE
  have hy : ∃ ty, (am_tys tc)[t]? = some (tc t, ty) := by
    rcases (show t = 0 ∨ t = 1 ∨ t = 2 ∨ t = 3 by omega) with rfl | rfl | rfl | rfl
    · exact ⟨_, rfl⟩
    · exact ⟨_, rfl⟩
    · exact ⟨_, rfl⟩
    · exact ⟨_, rfl⟩
  obtain ⟨ty, hy⟩ := hy
  have hn : (am_ca r (n, x)).1 = n := by obtain f | f | f | f | f := x <;> rfl
  exact va_alen C.1 C.2.1 C.2.2.2.2.2.2.2.1 hS.2.1 a t (am_cw_at hc) hy (by rw [hn]; exact hv) hd (k p l e R s m args below meth c Q tc D A C r H locs cells slots mc ms sl hS hl wl ⟨trivial, ws.2⟩ h1 h2 h3 h4 hE)
theorem am_Sm_set {tc : Nat → ClassId} {D : va_G} {A : Nat → Prop} {s : State} {r : Nat → Nat} {H H1 : Heap} {locs locs1 : List Loc} {a : Nat} {x : am_C} (hS : am_Sm sc tc D A s r w H locs) (hx : am_wc w.length x) (hP : va_P D vwCl ((am_cw tc r w).set a (r (a + 1), am_ce tc r x)) H1) (hD : va_D A ((am_cw tc r w).set a (r (a + 1), am_ce tc r x))) (hS1 : va_S A s.heap H1 locs1) : am_Sm sc tc D A s r (w.set a x) H1 locs1 := by
  refine ⟨am_ww_set hS.1 hx, ?_, ?_, hS1, hS.2.2.2.2⟩
  · rw [am_cw_set]; exact hP
  · rw [am_cw_set]; exact hD
theorem wp_iastore {a n : Nat} {f : Nat → Int32} {i x : Int32} {w' : am_W} (hd : decode M.2.1 pc = .ok (.iastore, 1)) (hq : pc + 1 = q) (hc : w[a]? = some (.inl (0, n, .inl f))) (hin : vp_in i n) (hw : w.set a (.inl (0, n, .inl (upd f i.toNatClampNeg x))) = w') (k : am_Wp sc M d bc bs q ls st w' F) : am_Wp sc M d bc bs pc ls (.int x :: .int i :: .ref a :: st) w F := by
  subst hq
  subst hw
  intro p l e R s m args below meth c Q tc D A C r H locs cells slots mc ms sl hS hl wl ws h1 h2 h3 h4 hE
  refine va_iast C.1 C.2.1 C.2.2.2.2.2.2.2.1 hS.2.1 hS.2.2.1 hS.2.2.2.1 a 0 (am_cw_at hc) (am_tys0 tc) hin hd (fun H1 locs1 hP hD hS1 => ?_)
  exact k p l e R s m args below meth c Q tc D A C r H1 locs1 cells slots mc ms sl (am_Sm_set hS trivial hP hD hS1) hl (by rw [List.length_set]; exact wl) (by rw [List.length_set]; exact ws.2.2.2) h1 h2 h3 h4 (by rw [List.length_set]; exact hE)
theorem wp_lastore {a n : Nat} {f : Nat → Int64} {i : Int32} {x : Int64} {w' : am_W} (hd : decode M.2.1 pc = .ok (.lastore, 1)) (hq : pc + 1 = q) (hc : w[a]? = some (.inl (1, n, .inr (.inl f)))) (hin : vp_in i n) (hw : w.set a (.inl (1, n, .inr (.inl (vp_updL f i.toNatClampNeg x)))) = w') (k : am_Wp sc M d bc bs q ls st w' F) : am_Wp sc M d bc bs pc ls (.long x :: .int i :: .ref a :: st) w F := by
  subst hq
  subst hw
  intro p l e R s m args below meth c Q tc D A C r H locs cells slots mc ms sl hS hl wl ws h1 h2 h3 h4 hE
  refine va_last C.1 C.2.1 C.2.2.2.2.2.2.2.1 hS.2.1 hS.2.2.1 hS.2.2.2.1 a 1 (am_cw_at hc) (am_tys1 tc) hin hd (fun H1 locs1 hP hD hS1 => ?_)
  exact k p l e R s m args below meth c Q tc D A C r H1 locs1 cells slots mc ms sl (am_Sm_set hS trivial hP hD hS1) hl (by rw [List.length_set]; exact wl) (by rw [List.length_set]; exact ws.2.2.2) h1 h2 h3 h4 (by rw [List.length_set]; exact hE)
theorem wp_ialoadN {a n j : Nat} {f : Nat → Int32} {i : Int32} (hd : decode M.2.1 pc = .ok (.iaload, 1)) (hq : pc + 1 = q) (hc : w[a]? = some (.inl (0, n, .inl f))) (hi : i = nI j) (hj : j < n) (hn : n < 2 ^ 31) (k : am_Wp sc M d bc bs q ls (.int (f j) :: st) w F) : am_Wp sc M d bc bs pc ls (.int i :: .ref a :: st) w F := by
  subst hi
  refine wp_iaload hd hq hc (vp_in_nI hj hn) ?_
  rw [nI_clamp (Nat.lt_trans hj hn)]
  exact k
theorem wp_laloadN {a n j : Nat} {f : Nat → Int64} {i : Int32} (hd : decode M.2.1 pc = .ok (.laload, 1)) (hq : pc + 1 = q) (hc : w[a]? = some (.inl (1, n, .inr (.inl f)))) (hi : i = nI j) (hj : j < n) (hn : n < 2 ^ 31) (k : am_Wp sc M d bc bs q ls (.long (f j) :: st) w F) : am_Wp sc M d bc bs pc ls (.int i :: .ref a :: st) w F := by
  subst hi
  refine wp_laload hd hq hc (vp_in_nI hj hn) ?_
  rw [nI_clamp (Nat.lt_trans hj hn)]
  exact k
theorem wp_aaloadN {a n j b : Nat} {f : Nat → Option Nat} {i : Int32} (hd : decode M.2.1 pc = .ok (.aaload, 1)) (hq : pc + 1 = q) (hc : w[a]? = some (.inl (3, n, .inr (.inr (.inr (.inr f)))))) (hi : i = nI j) (hj : j < n) (hn : n < 2 ^ 31) (hv : f j = some b) (k : am_Wp sc M d bc bs q ls (.ref b :: st) w F) : am_Wp sc M d bc bs pc ls (.int i :: .ref a :: st) w F := by
  subst hi
  refine wp_aaload hd hq hc (vp_in_nI hj hn) ?_ k
  rw [nI_clamp (Nat.lt_trans hj hn)]
  exact hv
theorem wp_iastoreN {a n j : Nat} {f : Nat → Int32} {i x : Int32} {w' : am_W} (hd : decode M.2.1 pc = .ok (.iastore, 1)) (hq : pc + 1 = q) (hc : w[a]? = some (.inl (0, n, .inl f))) (hi : i = nI j) (hj : j < n) (hn : n < 2 ^ 31) (hw : w.set a (.inl (0, n, .inl (upd f j x))) = w') (k : am_Wp sc M d bc bs q ls st w' F) : am_Wp sc M d bc bs pc ls (.int x :: .int i :: .ref a :: st) w F := by
  subst hi
  refine wp_iastore hd hq hc (vp_in_nI hj hn) ?_ k
  rw [nI_clamp (Nat.lt_trans hj hn)]
  exact hw
theorem wp_lastoreN {a n j : Nat} {f : Nat → Int64} {i : Int32} {x : Int64} {w' : am_W} (hd : decode M.2.1 pc = .ok (.lastore, 1)) (hq : pc + 1 = q) (hc : w[a]? = some (.inl (1, n, .inr (.inl f)))) (hi : i = nI j) (hj : j < n) (hn : n < 2 ^ 31) (hw : w.set a (.inl (1, n, .inr (.inl (vp_updL f j x)))) = w') (k : am_Wp sc M d bc bs q ls st w' F) : am_Wp sc M d bc bs pc ls (.long x :: .int i :: .ref a :: st) w F := by
  subst hi
  refine wp_lastore hd hq hc (vp_in_nI hj hn) ?_ k
  rw [nI_clamp (Nat.lt_trans hj hn)]
  exact hw
/-- the script -/
theorem wp_sload {L j : Nat} {xs : Nat → Int32} {i : Int32} (hd : decode M.2.1 pc = .ok (.iaload, 1)) (hq : pc + 1 = q) (hsc : sc = some (L, xs)) (hin : vp_in i L) (k : am_Wp sc M d bc bs q ls (.int (xs i.toNatClampNeg) :: st) w F) : am_Wp sc M d bc bs pc ls (.int i :: .retAddr j :: st) w F := by
  subst hq
  subst hsc
  intro p l e R s m args below meth c Q tc D A C r H locs cells slots mc ms sl hS hl wl ws h1 h2 h3 h4 hE
  exact va_sld C.1 C.2.1 hS.2.2.2.2.1 hS.2.2.2.2.2.1 hS.2.2.2.2.2.2 hS.2.2.2.1 hin hd (k p l e R s m args below meth c Q tc D A C r H locs cells slots mc ms sl hS hl wl ⟨trivial, ws.2.2⟩ h1 h2 h3 h4 hE)
theorem wp_slen {L j : Nat} {xs : Nat → Int32} (hd : decode M.2.1 pc = .ok (.arraylength, 1)) (hq : pc + 1 = q) (hsc : sc = some (L, xs)) (k : am_Wp sc M d bc bs q ls (.int (Int32.ofNat L) :: st) w F) : am_Wp sc M d bc bs pc ls (.retAddr j :: st) w F := by
  subst hq
  subst hsc
  intro p l e R s m args below meth c Q tc D A C r H locs cells slots mc ms sl hS hl wl ws h1 h2 h3 h4 hE
  exact va_slen C.1 C.2.1 hS.2.2.2.2.1 hS.2.2.2.2.2.1 hS.2.2.2.2.2.2 hS.2.2.2.1 hd (k p l e R s m args below meth c Q tc D A C r H locs cells slots mc ms sl hS hl wl ⟨trivial, ws.2⟩ h1 h2 h3 h4 hE)
end Rules
end
section
/-! FIELDS, NEW CELLS, CALLS -/
/-- what is known of a sort of objects: its place in vwCl, its words, its fields' types -/
def am_Ok (ci : Nat) (C : String) (T : u_T) (N : Nat) (ty : Nat → FieldType) : Prop :=
  vwCl[ci]? = some (C, T, N) ∧ (∀ w ∈ u_ws C T N, w ∈ am_good) ∧ (∀ k, k < N → parseFieldDescriptor (T k).2.2.1 = some (ty k)) ∧ (∀ a, a < N → ∀ b, b < N → a ≠ b → (T a).2.1 ≠ (T b).2.1)
section HeapRules
variable {sc : am_S} {M : am_M} {d bc bs pc q : Nat} {ls : am_L} {st : List Value} {w : am_W} {F : Option Value → am_W → Prop}
variable {ci : Nat} {C : String} {T : u_T} {N : Nat} {ty : Nat → FieldType}
theorem am_fs_at {fs : List Value} {k : Nat} {v : Value} {r : Nat → Nat} (h : fs[k]? = some v) : (fs.map (am_cv r))[k]? = some (am_cv r v) := by
  rw [List.getElem?_map, h]; rfl
theorem am_ws_at {n : Nat} {fs : List Value} {k : Nat} {v : Value} (hw : am_ws n fs) (h : fs[k]? = some v) : am_wv n v := am_ws_mem hw (List.mem_of_getElem? h)
theorem am_ws_set {n : Nat} {v : Value} (hv : am_wv n v) : ∀ {fs : List Value} {k : Nat}, am_ws n fs → am_ws n (fs.set k v)
  | [], _, _ => trivial
  | _ :: _, 0, h => ⟨hv, h.2⟩
  | _ :: _, _ + 1, h => ⟨h.1, am_ws_set hv h.2⟩
theorem wp_get {a k ix : Nat} {fs : List Value} {v : Value} (hd : decode M.2.1 pc = .ok (.getfield ix, 3)) (hq : pc + 3 = q) (hO : am_Ok ci C T N ty) (hk : k < N) (hlink : Cond.fieldLink M.1.cls ix (T k).1 (T k).2.1 (T k).2.2.1 ∈ lw_tbl) (hc : w[a]? = some (.inr (ci, fs))) (hv : fs[k]? = some v) (kk : am_Wp sc M d bc bs q ls (v :: st) w F) : am_Wp sc M d bc bs pc ls (.ref a :: st) w F := by
  subst hq
  intro p l e R s m args below meth c Q tc D A C0 r H locs cells slots mc ms sl hS hl wl ws h1 h2 h3 h4 hE
  exact va_get C0.1 C0.2.1 C0.2.2.2.2.2.1 hO.2.1 C0.2.2.2.2.1 C0.2.2.2.2.2.2.2.1 hS.2.1 a (am_cw_at hc) hO.1 k hk (C0.2.2.2.2.2.1 _ (am_in hlink rfl)) (fun _ h9 => h9) (am_fs_at hv) hd (kk p l e R s m args below meth c Q tc D A C0 r H locs cells slots mc ms sl hS hl wl ⟨am_ws_at (hS.1 a _ hc) hv, ws.2⟩ h1 h2 h3 h4 hE)
theorem wp_getN {a k ix : Nat} {host : String} {fs : List Value} {v : Value} (hd : decode M.2.1 pc = .ok (.getfield ix, 3)) (hq : pc + 3 = q) (hO : am_Ok ci C T N ty) (hk : k < N) (hlink : Cond.fieldLinkNest M.1.cls ix (T k).1 (T k).2.1 (T k).2.2.1 host ∈ lw_tbl) (hc : w[a]? = some (.inr (ci, fs))) (hv : fs[k]? = some v) (kk : am_Wp sc M d bc bs q ls (v :: st) w F) : am_Wp sc M d bc bs pc ls (.ref a :: st) w F := by
  subst hq
  intro p l e R s m args below meth c Q tc D A C0 r H locs cells slots mc ms sl hS hl wl ws h1 h2 h3 h4 hE
  exact va_getN C0.1 C0.2.1 C0.2.2.2.2.2.1 hO.2.1 C0.2.2.2.2.1 C0.2.2.2.2.2.2.2.1 hS.2.1 a (am_cw_at hc) hO.1 k hk (va_Nw.use rfl (C0.2.2.2.2.2.2.1 _ (am_inN hlink rfl))) (fun _ h9 => h9) (am_fs_at hv) hd (kk p l e R s m args below meth c Q tc D A C0 r H locs cells slots mc ms sl hS hl wl ⟨am_ws_at (hS.1 a _ hc) hv, ws.2⟩ h1 h2 h3 h4 hE)
/-- what may be stored in a field of this type: a number that fits, or a reference -/
def am_fit (t : FieldType) (v : Value) : Prop := ∀ r, narrow t (am_cv r v) = am_cv r v ∧ fits t (am_cv r v) = true
theorem am_ce_set {tc : Nat → ClassId} {r : Nat → Nat} {fs : List Value} {k : Nat} {v : Value} : am_ce tc r (.inr (ci, fs.set k v)) = .inr (ci, (fs.map (am_cv r)).set k (am_cv r v)) := by
  show Sum.inr (ci, (fs.set k v).map (am_cv r)) = _
  rw [List.map_set]
theorem wp_put {a k ix : Nat} {fs : List Value} {v : Value} {w' : am_W} (hd : decode M.2.1 pc = .ok (.putfield ix, 3)) (hq : pc + 3 = q) (hO : am_Ok ci C T N ty) (hk : k < N) (hlink : Cond.fieldLink M.1.cls ix (T k).1 (T k).2.1 (T k).2.2.1 ∈ lw_tbl) (hfin : (T k).2.2.2 = false) (hfit : am_fit (ty k) v) (hc : w[a]? = some (.inr (ci, fs))) (hl9 : k < fs.length) (hw : w.set a (.inr (ci, fs.set k v)) = w') (kk : am_Wp sc M d bc bs q ls st w' F) : am_Wp sc M d bc bs pc ls (v :: .ref a :: st) w F := by
  subst hq
  subst hw
  intro p l e R s m args below meth c Q tc D A C0 r H locs cells slots mc ms sl hS hl wl ws h1 h2 h3 h4 hE
  refine va_put C0.1 C0.2.1 C0.2.2.2.2.2.1 hO.2.1 ty hO.2.2.1 hO.2.2.2 C0.2.2.2.2.1 C0.2.2.2.2.2.2.2.1 hS.2.1 hS.2.2.1 hS.2.2.2.1 a (am_cw_at hc) hO.1 k hk (C0.2.2.2.2.2.1 _ (am_in hlink rfl)) (fun _ h9 => h9) hfin (hO.2.2.1 k hk) (hfit r).1 (hfit r).2 (by rw [List.length_map]; exact hl9) hd (fun H1 locs1 hP hD hS1 => ?_)
  rw [← am_ce_set (tc := tc)] at hP hD
  exact kk p l e R s m args below meth c Q tc D A C0 r H1 locs1 cells slots mc ms sl (am_Sm_set hS (am_ws_set ws.1 (hS.1 a _ hc)) hP hD hS1) hl (by rw [List.length_set]; exact wl) (by rw [List.length_set]; exact ws.2.2) h1 h2 h3 h4 (by rw [List.length_set]; exact hE)
theorem wp_putN {a k ix : Nat} {host : String} {fs : List Value} {v : Value} {w' : am_W} (hd : decode M.2.1 pc = .ok (.putfield ix, 3)) (hq : pc + 3 = q) (hO : am_Ok ci C T N ty) (hk : k < N) (hlink : Cond.fieldLinkNest M.1.cls ix (T k).1 (T k).2.1 (T k).2.2.1 host ∈ lw_tbl) (hfin : (T k).2.2.2 = false) (hfit : am_fit (ty k) v) (hc : w[a]? = some (.inr (ci, fs))) (hl9 : k < fs.length) (hw : w.set a (.inr (ci, fs.set k v)) = w') (kk : am_Wp sc M d bc bs q ls st w' F) : am_Wp sc M d bc bs pc ls (v :: .ref a :: st) w F := by
  subst hq
  subst hw
  intro p l e R s m args below meth c Q tc D A C0 r H locs cells slots mc ms sl hS hl wl ws h1 h2 h3 h4 hE
  refine va_putN C0.1 C0.2.1 C0.2.2.2.2.2.1 hO.2.1 ty hO.2.2.1 hO.2.2.2 C0.2.2.2.2.1 C0.2.2.2.2.2.2.2.1 hS.2.1 hS.2.2.1 hS.2.2.2.1 a (am_cw_at hc) hO.1 k hk (va_Nw.use rfl (C0.2.2.2.2.2.2.1 _ (am_inN hlink rfl))) (fun _ h9 => h9) hfin (hO.2.2.1 k hk) (hfit r).1 (hfit r).2 (by rw [List.length_map]; exact hl9) hd (fun H1 locs1 hP hD hS1 => ?_)
  rw [← am_ce_set (tc := tc)] at hP hD
  exact kk p l e R s m args below meth c Q tc D A C0 r H1 locs1 cells slots mc ms sl (am_Sm_set hS (am_ws_set ws.1 (hS.1 a _ hc)) hP hD hS1) hl (by rw [List.length_set]; exact wl) (by rw [List.length_set]; exact ws.2.2) h1 h2 h3 h4 (by rw [List.length_set]; exact hE)
theorem wp_putF {a k ix : Nat} {fs : List Value} {v : Value} {w' : am_W} (hd : decode M.2.1 pc = .ok (.putfield ix, 3)) (hq : pc + 3 = q) (hO : am_Ok ci C T N ty) (hk : k < N) (hlink : Cond.fieldLink M.1.cls ix (T k).1 (T k).2.1 (T k).2.2.1 ∈ lw_tbl) (hfin : (T k).2.2.2 = true) (hnm : M.1.name = "<init>") (hdecl : (T k).1 = M.1.cls) (hfit : am_fit (ty k) v) (hc : w[a]? = some (.inr (ci, fs))) (hl9 : k < fs.length) (hw : w.set a (.inr (ci, fs.set k v)) = w') (kk : am_Wp sc M d bc bs q ls st w' F) : am_Wp sc M d bc bs pc ls (v :: .ref a :: st) w F := by
  subst hq
  subst hw
  intro p l e R s m args below meth c Q tc D A C0 r H locs cells slots mc ms sl hS hl wl ws h1 h2 h3 h4 hE
  refine va_putF C0.1 C0.2.1 C0.2.2.2.2.2.1 hO.2.1 ty hO.2.2.1 hO.2.2.2 C0.2.2.2.2.1 C0.2.2.2.2.2.2.2.1 hS.2.1 hS.2.2.1 hS.2.2.2.1 a (am_cw_at hc) hO.1 k hk (C0.2.2.2.2.2.1 _ (am_in hlink rfl)) (fun _ h9 => h9) hfin (C0.2.2.2.2.2.2.2.2.2.1.trans hnm) hdecl (hO.2.2.1 k hk) (hfit r).1 (hfit r).2 (by rw [List.length_map]; exact hl9) hd (fun H1 locs1 hP hD hS1 => ?_)
  rw [← am_ce_set (tc := tc)] at hP hD
  exact kk p l e R s m args below meth c Q tc D A C0 r H1 locs1 cells slots mc ms sl (am_Sm_set hS (am_ws_set ws.1 (hS.1 a _ hc)) hP hD hS1) hl (by rw [List.length_set]; exact wl) (by rw [List.length_set]; exact ws.2.2) h1 h2 h3 h4 (by rw [List.length_set]; exact hE)
/-- the naming, with one cell more -/
def am_up (r : Nat → Nat) (n a : Nat) : Nat → Nat := fun j => if j = n then a else r j
theorem am_up_ext {r : Nat → Nat} {n a : Nat} : ∀ j, j ≤ n → am_up r (n + 1) a j = r j := fun j hj => by
  unfold am_up; rw [if_neg (by omega)]
theorem am_up_self {r : Nat → Nat} {n a : Nat} : am_up r n a n = a := by unfold am_up; rw [if_pos rfl]
theorem am_X_ext {A : Nat → Prop} {s : State} {r r1 : Nat → Nat} (h : r1 0 = r 0) (hX : am_X sc A s r) : am_X sc A s r1 := by
  cases sc with
  | none => trivial
  | some x => show va_X (r1 0) x.1 x.2 s s.heap ∧ r1 0 < s.heap.size ∧ ¬ A (r1 0); rw [h]; exact hX
theorem am_Sm_push {tc : Nat → ClassId} {D : va_G} {A : Nat → Prop} {s : State} {r : Nat → Nat} {H H1 : Heap} {locs locs1 : List Loc} {a : Nat} {x : am_C} (hS : am_Sm sc tc D A s r w H locs) (hx : am_wc w.length x) (hP : va_P D vwCl (am_cw tc r w ++ [(a, am_ce tc r x)]) H1) (hD : va_D A (am_cw tc r w ++ [(a, am_ce tc r x)])) (hS1 : va_S A s.heap H1 locs1) : am_Sm sc tc D A s (am_up r (w.length + 1) a) (w ++ [x]) H1 locs1 := by
  have e : am_cw tc (am_up r (w.length + 1) a) (w ++ [x]) = am_cw tc r w ++ [(a, am_ce tc r x)] := by
    rw [am_cw_push, am_cw_ext am_up_ext hS.1, am_ce_ext am_up_ext hx, am_up_self]
  refine ⟨am_ww_push hS.1 hx, ?_, ?_, hS1, am_X_ext (am_up_ext 0 (Nat.zero_le _)) hS.2.2.2.2⟩
  · rw [e]; exact hP
  · rw [e]; exact hD
theorem am_End_up {M : am_M} {p : Program} {l : Launch} {e : Env} {R : Room} {s : State} {m : MethodId} {args : Array Value} {below : List Frame} {meth : Method} {c : Code} {Q : State → Prop} {tc : Nat → ClassId} {D : va_G} {A : Nat → Prop} {mc ms : Nat} {r r1 : Nat → Nat} {n n1 : Nat} (h : ∀ a, a ≤ n → r1 a = r a) (hn : n ≤ n1) (hE : am_End sc M p l e R s m args below meth c Q tc D A mc ms r n F) : am_End sc M p l e R s m args below meth c Q tc D A mc ms r1 n1 F :=
  fun v w1 r2 H1 locs1 cells1 slots1 pc1 sl1 hF hS hr hl hv hc hs ht => hE v w1 r2 H1 locs1 cells1 slots1 pc1 sl1 hF hS (fun a ha => (hr a (Nat.le_trans ha hn)).trans (h a ha)) (Nat.le_trans hn hl) hv hc hs ht
theorem wp_new {ix : Nat} {fs : List Value} (hd : decode M.2.1 pc = .ok (.new ix, 3)) (hq : pc + 3 = q) (hO : am_Ok ci C T N ty) (hlink : Cond.classLink M.1.cls ix C ∈ lw_tbl) (hinst : Cond.instantiable C N ∈ lw_tbl) (hini : Cond.initialized C ∈ lw_tbl) (hfs : ∀ j, j < N → defaultValue (ty j) = vp_V fs j) (hfw : am_ws 0 fs) (hfr : ∀ r, fs.map (am_cv r) = fs) (kk : am_Wp sc M d bc bs q ls (.ref w.length :: st) (w ++ [.inr (ci, fs)]) F) : am_Wp sc M d (bc + 1) (bs + N) pc ls st w F := by
  subst hq
  intro p l e R s m args below meth c Q tc D A C0 r H locs cells slots mc ms sl hS hl wl ws h1 h2 h3 h4 hE
  refine va_new (ci := ci) (fs := fs) C0.1 C0.2.1 C0.2.2.2.2.2.1 hO.2.1 ty hO.2.2.1 C0.2.2.2.2.1 (C0.2.2.2.2.2.1 _ (am_in hlink rfl)) (C0.2.2.2.2.2.1 _ (am_in hinst rfl)) (C0.2.2.2.2.2.1 _ (am_in hini rfl)) C0.2.2.2.2.2.2.2.1 hS.2.1 hS.2.2.1 hS.2.2.2.1 C0.2.2.2.2.2.2.2.2.2.2.1 hO.1 hfs (by omega) (by omega) hd (fun a H1 hP hD hS1 => ?_)
  have hfs' : am_wc w.length (.inr (ci, fs)) := am_ws_mono (Nat.zero_le _) hfw
  have ee : (Sum.inr (ci, fs) : va_E) = am_ce tc r (.inr (ci, fs)) := by show _ = Sum.inr (ci, fs.map (am_cv r)); rw [hfr]
  rw [ee] at hP hD
  have hx : ∀ j, j ≤ w.length → am_up r (w.length + 1) a j = r j := am_up_ext
  have hlen : w.length ≤ (w ++ [(.inr (ci, fs) : am_C)]).length := by rw [List.length_append]; exact Nat.le_add_right _ _
  have k9 := kk p l e R s m args below meth c Q tc D A C0 (am_up r (w.length + 1) a) H1 locs (cells + 1) (slots + N) mc ms sl (am_Sm_push hS hfs' hP hD hS1) (by rw [am_cl_ext hx wl]; exact hl) (am_wl_mono hlen wl) ⟨(by rw [List.length_append]; exact Nat.lt_succ_self _), am_ws_mono hlen ws⟩ (by omega) (by omega) h3 h4 (am_End_up hx hlen hE)
  rw [List.map_cons, am_cs_ext hx ws] at k9
  rw [show am_cv (am_up r (w.length + 1) a) (.ref w.length) = .ref a from congrArg Value.ref am_up_self] at k9
  exact k9
/-- a new array of numbers -/
def am_kind (t : Nat) : FieldType := match t with
  | 0 => .int
  | 1 => .long
  | 2 => .boolean
  | _ => .array .int
def am_zero (t n : Nat) : vp_A := match t with
  | 1 => (n, .inr (.inl (fun _ => 0)))
  | 3 => (n, .inr (.inr (.inr (.inr (fun _ => none)))))
  | _ => (n, .inl (fun _ => 0))
theorem wp_newa {at_ : ArrayType} {t : Nat} {n : Int32} {N' : Nat} (hd : decode M.2.1 pc = .ok (.newarray at_, 2)) (hq : pc + 2 = q) (ht : t < 3) (hty : newarray.typeOf at_ = am_kind t) (harr : Cond.arrayClass (am_kind t) ∈ lw_tbl) (hn : ¬ n < 0) (hN : n.toNatClampNeg = N') (hb : N' * componentBytes (am_kind t) ≤ 536870912) (kk : am_Wp sc M d bc bs q ls (.ref w.length :: st) (w ++ [.inl (t, am_zero t N')]) F) : am_Wp sc M d (bc + 1) (bs + N') pc ls (.int n :: st) w F := by
  subst hq
  intro p l e R s m args below meth c Q tc D A C0 r H locs cells slots mc ms sl hS hl wl ws h1 h2 h3 h4 hE
  have hK := C0.2.2.2.2.2.2.2.1
  have hz : ∀ cA : ClassId, vp_cell cA (am_zero t N') = arrV cA N' (fun _ => defaultValue (am_kind t)) := by
    intro cA
    rcases (show t = 0 ∨ t = 1 ∨ t = 2 by omega) with rfl | rfl | rfl <;> rfl
  have hg : goodWord (Cond.arrayClass (am_kind t)) = true := rfl
  refine va_newa (ty := am_kind t) (a0 := am_zero t N') C0.1 C0.2.1 (by rw [hty]; exact C0.2.2.2.2.2.1 _ (am_in harr hg)) hty hK hS.2.1 hS.2.2.1 hS.2.2.2.1 C0.2.2.2.2.2.2.2.2.2.2.1 hz hn hN hb (by omega) (by omega) hd (fun a cA H1 hK1 hP hD hS1 => ?_)
  have hcA : cA = tc t := by
    have e1 := (hK1.2 4 (cA, am_kind t) (by rfl)).2
    rcases (show t = 0 ∨ t = 1 ∨ t = 2 by omega) with rfl | rfl | rfl
    · exact Option.some.inj (e1.symm.trans (hK.2 0 _ rfl).2)
    · exact Option.some.inj (e1.symm.trans (hK.2 1 _ rfl).2)
    · exact Option.some.inj (e1.symm.trans (hK.2 2 _ rfl).2)
  subst hcA
  have hw0 : am_wc w.length (.inl (t, am_zero t N')) := by
    rcases (show t = 0 ∨ t = 1 ∨ t = 2 by omega) with rfl | rfl | rfl <;> exact trivial
  have ee : (Sum.inl (tc t, am_zero t N') : va_E) = am_ce tc r (.inl (t, am_zero t N')) := by
    rcases (show t = 0 ∨ t = 1 ∨ t = 2 by omega) with rfl | rfl | rfl <;> rfl
  rw [ee] at hP hD
  have hx : ∀ j, j ≤ w.length → am_up r (w.length + 1) a j = r j := am_up_ext
  have hlen : w.length ≤ (w ++ [(.inl (t, am_zero t N') : am_C)]).length := by rw [List.length_append]; exact Nat.le_add_right _ _
  have k9 := kk p l e R s m args below meth c Q tc D A C0 (am_up r (w.length + 1) a) H1 locs (cells + 1) (slots + N') mc ms sl (am_Sm_push hS hw0 hP hD hS1) (by rw [am_cl_ext hx wl]; exact hl) (am_wl_mono hlen wl) ⟨(by rw [List.length_append]; exact Nat.lt_succ_self _), am_ws_mono hlen ws.2⟩ (by omega) (by omega) h3 h4 (am_End_up hx hlen hE)
  rw [List.map_cons, am_cs_ext hx ws.2] at k9
  rw [show am_cv (am_up r (w.length + 1) a) (.ref w.length) = .ref a from congrArg Value.ref am_up_self] at k9
  exact k9
theorem wp_objInit {a ix : Nat} (hd : decode M.2.1 pc = .ok (.invokespecial ix, 3)) (hq : pc + 3 = q) (hlink : Cond.methodLink M.1.cls ix Lib.objectInit ∈ lw_tbl) (hinst : Cond.instanceMethod Lib.objectInit ∈ lw_tbl) (hcode : Cond.code Lib.objectInit ⟨#[0xb1]⟩ 1 none ∈ lw_tbl) (hrm : (st.map fun v => v.category).sum ≤ 8) (hdd : 1 ≤ d) (kk : am_Wp sc M d bc bs q ls st w F) : am_Wp sc M d bc bs pc ls (.ref a :: st) w F := by
  subst hq
  intro p l e R s m args below meth c Q tc D A C0 r H locs cells slots mc ms sl hS hl wl ws h1 h2 h3 h4 hE
  have hfr := C0.2.2.2.2.2.2.2.2.2.2.2
  have hcat : ((st.map (am_cv r)).map fun v => v.category).sum = (st.map fun v => v.category).sum := by
    rw [List.map_map]; congr 1; apply List.map_congr_left; intro v _; exact am_cv_cat r v
  refine W.objInit C0.1 C0.2.1 C0.2.2.2.2.1 (C0.2.2.2.2.2.1 _ (am_in hlink rfl)) (C0.2.2.2.2.2.1 _ (am_in hinst rfl)) (C0.2.2.2.2.2.1 _ (am_in hcode rfl)) rfl (by rw [C0.2.2.2.1]; exact hl.1) rfl hd (by omega) (by show 2 * 0 + _ + 12 ≤ _; rw [hcat]; omega) ?_
  exact kk p l e R s m args below meth c Q tc D A C0 r H locs cells slots mc ms sl hS hl wl ws.2 h1 h2 h3 h4 hE
/-- an array's contents beyond its length don't matter -/
theorem wp_chg {a t n : Nat} {f g : Nat → Int32} {w' : am_W} (hc : w[a]? = some (.inl (t, n, .inl f))) (hfg : ∀ j, j < n → f j = g j) (hw : w.set a (.inl (t, n, .inl g)) = w') (k : am_Wp sc M d bc bs pc ls st w' F) : am_Wp sc M d bc bs pc ls st w F := by
  subst hw
  intro p l e R s m args below meth c Q tc D A C0 r H locs cells slots mc ms sl hS hl wl ws h1 h2 h3 h4 hE
  have ha : H[r (a + 1)]? = some (vp_cell (tc t) (n, .inl f)) := hS.2.1 a _ (am_cw_at hc)
  have e9 : vp_cell (tc t) (n, .inl f) = vp_cell (tc t) (n, .inl g) := by
    rw [vp_cell_i, vp_cell_i]
    unfold arrV
    congr 2
    funext j
    exact congrArg Value.int (hfg j.val j.isLt)
  have hP : va_P D vwCl ((am_cw tc r w).set a (r (a + 1), am_ce tc r (.inl (t, n, .inl g)))) H := hS.2.1.set hS.2.2.1 (am_cw_at hc) (show H[r (a + 1)]? = some (vp_cell (tc t) (n, .inl g)) by rw [ha, e9]) (fun _ _ => rfl)
  exact k p l e R s m args below meth c Q tc D A C0 r H locs cells slots mc ms sl (am_Sm_set hS trivial hP (hS.2.2.1.set (am_cw_at hc)) hS.2.2.2.1) hl (by rw [List.length_set]; exact wl) (by rw [List.length_set]; exact ws) h1 h2 h3 h4 (by rw [List.length_set]; exact hE)
theorem wp_chgL {a t n : Nat} {f g : Nat → Int64} {w' : am_W} (hc : w[a]? = some (.inl (t, n, .inr (.inl f)))) (hfg : ∀ j, j < n → f j = g j) (hw : w.set a (.inl (t, n, .inr (.inl g))) = w') (k : am_Wp sc M d bc bs pc ls st w' F) : am_Wp sc M d bc bs pc ls st w F := by
  subst hw
  intro p l e R s m args below meth c Q tc D A C0 r H locs cells slots mc ms sl hS hl wl ws h1 h2 h3 h4 hE
  have ha : H[r (a + 1)]? = some (vp_cell (tc t) (n, .inr (.inl f))) := hS.2.1 a _ (am_cw_at hc)
  have e9 : vp_cell (tc t) (n, .inr (.inl f)) = vp_cell (tc t) (n, .inr (.inl g)) := by
    rw [vp_cell_l, vp_cell_l]
    unfold arrV
    congr 2
    funext j
    exact congrArg Value.long (hfg j.val j.isLt)
  have hP : va_P D vwCl ((am_cw tc r w).set a (r (a + 1), am_ce tc r (.inl (t, n, .inr (.inl g))))) H := hS.2.1.set hS.2.2.1 (am_cw_at hc) (show H[r (a + 1)]? = some (vp_cell (tc t) (n, .inr (.inl g))) by rw [ha, e9]) (fun _ _ => rfl)
  exact k p l e R s m args below meth c Q tc D A C0 r H locs cells slots mc ms sl (am_Sm_set hS trivial hP (hS.2.2.1.set (am_cw_at hc)) hS.2.2.2.1) hl (by rw [List.length_set]; exact wl) (by rw [List.length_set]; exact ws) h1 h2 h3 h4 (by rw [List.length_set]; exact hE)
/-- deeper is easier; more room is easier; a weaker end is easier -/
theorem wp_deep {d1 : Nat} (h : d1 ≤ d) (k : am_Wp sc M d1 bc bs pc ls st w F) : am_Wp sc M d bc bs pc ls st w F := by
  intro p l e R s m args below meth c Q tc D A C0 r H locs cells slots mc ms sl hS hl wl ws h1 h2 h3 h4 hE
  obtain ⟨c1, c2, c3, c4, c5, c6, c7, c8, c9, c10, c11, c12, c13⟩ := C0
  exact k p l e R s m args below meth c Q tc D A ⟨c1, c2, c3, c4, c5, c6, c7, c8, c9, c10, c11, by omega, by omega⟩ r H locs cells slots mc ms sl hS hl wl ws h1 h2 h3 h4 hE
theorem wp_more {bc1 bs1 : Nat} (hb : bc1 ≤ bc) (hs : bs1 ≤ bs) (k : am_Wp sc M d bc1 bs1 pc ls st w F) : am_Wp sc M d bc bs pc ls st w F := by
  intro p l e R s m args below meth c Q tc D A C0 r H locs cells slots mc ms sl hS hl wl ws h1 h2 h3 h4 hE
  exact k p l e R s m args below meth c Q tc D A C0 r H locs cells slots mc ms sl hS hl wl ws (by omega) (by omega) h3 h4 hE
theorem wp_post {F1 : Option Value → am_W → Prop} (h : ∀ v w1, F1 v w1 → F v w1) (k : am_Wp sc M d bc bs pc ls st w F1) : am_Wp sc M d bc bs pc ls st w F := by
  intro p l e R s m args below meth c Q tc D A C0 r H locs cells slots mc ms sl hS hl wl ws h1 h2 h3 h4 hE
  exact k p l e R s m args below meth c Q tc D A C0 r H locs cells slots mc ms sl hS hl wl ws h1 h2 h3 h4 (fun v w1 r1 H1 locs1 cells1 slots1 pc1 sl1 hF => hE v w1 r1 H1 locs1 cells1 slots1 pc1 sl1 (h v w1 hF))
/-- fewer locals are enough -/
theorem wp_ls {ls' : am_L} (h : ∀ q, q ∈ ls' → q ∈ ls) (k : am_Wp sc M d bc bs pc ls' st w F) : am_Wp sc M d bc bs pc ls st w F := by
  intro p l e R s m args below meth c Q tc D A C0 r H locs cells slots mc ms sl hS hl wl ws h1 h2 h3 h4 hE
  refine k p l e R s m args below meth c Q tc D A C0 r H locs cells slots mc ms sl hS ⟨hl.1, hl.2.1, fun q hq => ?_⟩ (am_wl_of (fun q hq => am_wl_mem wl (h q hq))) ws h1 h2 h3 h4 hE
  obtain ⟨x, hx, rfl⟩ := List.mem_map.mp hq
  exact hl.2.2 _ (List.mem_map.mpr ⟨x, h x hx, rfl⟩)
end HeapRules
/-! small rows for the walks -/
theorem am_fit_i {x : Int32} : am_fit .int (.int x) := fun _ => ⟨rfl, rfl⟩
theorem am_fit_l {x : Int64} : am_fit .long (.long x) := fun _ => ⟨rfl, rfl⟩
theorem am_fit_o {n : String} {a : Nat} : am_fit (.object n) (.ref a) := fun _ => ⟨rfl, rfl⟩
theorem am_fit_a {t : FieldType} {a : Nat} : am_fit (.array t) (.ref a) := fun _ => ⟨rfl, rfl⟩
theorem am_fit_b {b : Bool} : am_fit .boolean (.int (if b then 1 else 0)) := fun _ => by cases b <;> exact ⟨rfl, rfl⟩
theorem am_at_eq {w : am_W} {a : Nat} {c x : am_C} (h : w[a]? = some c) : (w.set a x)[a]? = some x := by
  rw [List.getElem?_set]; simp [am_ww_len h]
theorem am_at_ne {w : am_W} {a b : Nat} {c x : am_C} (hn : a ≠ b) (h : w[b]? = some c) : (w.set a x)[b]? = some c := by
  rw [List.getElem?_set, if_neg hn]; exact h
end
section
/-! CALLS -/
def am_Pre (tc : Nat → ClassId) (D : va_G) (r : Nat → Nat) (w : am_W) (sz : Nat) (U : State) : Prop :=
  U.heap.size = sz ∧ va_P D vwCl (am_cw tc r w) U.heap ∧ va_K D vwCl (am_tys tc) U ∧ va_D (fun _ => True) (am_cw tc r w) ∧ ∀ x ∈ am_nest, va_Nw x U
def am_Q (tc : Nat → ClassId) (D : va_G) (r : Nat → Nat) (n : Nat) (F : Option Value → am_W → Prop) (A : Nat → Prop) : Array Value → State → Outcome → State → Prop := fun _ st oc t =>
  (∃ (v : Option Value) (w1 : am_W) (r1 : Nat → Nat), oc = .returned (v.map (am_cv r1)) ∧ F v w1 ∧ am_ww w1 ∧ (∀ a, a ≤ n → r1 a = r a) ∧ n ≤ w1.length ∧ am_wo w1.length v ∧ va_P D vwCl (am_cw tc r1 w1) t.heap ∧ va_D A (am_cw tc r1 w1)) ∧ va_F A st t
/-- what the tables say of a method that may be called: n parameters -/
def am_Bd (M : am_M) (n : Nat) : Prop :=
  plainName M.1.cls = true ∧ Cond.code M.1 M.2.1 M.2.2.1 M.2.2.2 ∈ lw_tbl ∧ Cond.initialized M.1.cls ∈ lw_tbl ∧ (M.1.cls ≠ "java/lang/invoke/MethodHandle" ∧ M.1.cls ≠ "java/lang/invoke/VarHandle" ∧ (parseMethodDescriptor M.1.desc).map (fun d => d.parameters.length) = some n) ∧ M.2.2.1 ≤ 45
theorem am_args_map (r : Nat → Nat) : ∀ (as : List Value) (i : Nat), lv_args i (as.map (am_cv r)) = am_cl r (lv_args i as)
  | [], _ => rfl
  | v :: as, i => by
    rw [List.map_cons]
    show (i, am_cv r v) :: lv_args (if (am_cv r v).category = 2 then i + 2 else i + 1) (as.map (am_cv r)) = (i, am_cv r v) :: am_cl r (lv_args (if v.category = 2 then i + 2 else i + 1) as)
    rw [am_cv_cat, am_args_map r as]
theorem am_sl_len (r : Nat → Nat) : ∀ (as : List Value), (lg_sl (as.map (am_cv r))).length = (lg_sl as).length
  | [] => rfl
  | v :: as => by
    have h := am_sl_len r as
    unfold lg_sl at h ⊢
    rw [List.map_cons, List.flatMap_cons, List.flatMap_cons, List.length_append, List.length_append, h, am_cv_cat]
    by_cases hc : v.category = 2 <;> simp [hc]
theorem am_met {M : am_M} {d mc ms n : Nat} {as : List Value} {w : am_W} {F : Option Value → am_W → Prop} (hB : am_Bd M n) (hlen : (lg_sl as).length ≤ M.2.2.1) (h : am_Wp none M d mc ms 0 (lv_args 0 as) [] w F) (l : Launch) (tc : Nat → ClassId) (D : va_G) (r : Nat → Nat) (sz : Nat) (hw : am_ww w) (has : am_ws w.length as) :
    Met l M.1 (Cond.code M.1 M.2.1 M.2.2.1 M.2.2.2 :: am_good) { frames := d, cells := mc, slots := ms, locals := d * 64 } (va_Pc (as.map (am_cv r)) (am_Pre tc D r w sz)) (am_Q tc D r w.length F (va_A (am_cw tc r w) sz)) mc ms (va_A (am_cw tc r w) sz) := by
  refine Met.ofW (cc := M.2.1) (maxL := M.2.2.1) (ret := M.2.2.2) hB.1 rfl ?_
  intro p e s m args below meth c s₁ B hml hv
  obtain ⟨rfl, hsz, hP, hK, hD0, hN⟩ := hv
  have hts := atoms_spec (ws := Cond.code M.1 M.2.1 M.2.2.1 M.2.2.2 :: am_good) B.pre
  subst hsz
  have hD := hD0.self (sz := s.heap.size)
  have hA : ∀ q : Nat, s.heap.size ≤ q → va_A (am_cw tc r w) s.heap.size q := fun q h => Or.inr h
  have hl := lv_entry (as.map (am_cv r)) (n := M.2.2.1) (by rw [am_sl_len]; exact hlen)
  rw [am_args_map] at hl
  rw [lg_entry_eq]
  refine h p l e _ s m _ below meth c _ tc D (va_A (am_cw tc r w) s.heap.size) ⟨B.exec, B.bytes, B.returns, hml, findClass_of_methodNamed B.named, fun x hx => hts x (List.mem_cons_of_mem _ hx), hN, hK, B.notSynchronized, (name_of_methodNamed B.named B.method).1, hA, Nat.le_refl _, Nat.le_refl _⟩ r s.heap [] 0 0 mc ms _ ⟨hw, hP, hD, va_S.rf, trivial⟩ hl (am_wl_args 0 has) trivial (by omega) (by omega) (Nat.le_refl _) (Nat.le_refl _) ?_
  intro v w1 r1 H1 locs1 cells1 slots1 pc1 sl1 hF hS hr hle hv hc hs hret
  refine W.widen hc hs ?_
  have hq : ∀ t : State, t.heap = H1 → am_Q tc D r w.length F (va_A (am_cw tc r w) s.heap.size) (as.map (am_cv r)).toArray s (.returned (v.map (am_cv r1))) t := fun t ht => ⟨⟨v, w1, r1, rfl, hF, hS.1, hr, hle, hv, by rw [ht]; exact hS.2.1, hS.2.2.1⟩, hS.2.2.2.1.F ht⟩
  have hlk := B.notSynchronized
  rcases hret with ⟨e1, rfl, e3⟩ | ⟨ty, x, e1, rfl, e2, e3⟩ | ⟨x, e1, rfl, e3⟩ | ⟨ty, a, e1, e2, rfl, e3⟩
  · exact W.vret B.exec B.bytes (B.returns.trans e1) (fun t ht _ => hq t ht) hS.2.2.2.1.2.2 e3 hlk
  · exact W.zret B.exec B.bytes (B.returns.trans e1) e2 (fun t ht _ => hq t ht) hS.2.2.2.1.2.2 e3 hlk
  · exact W.lret B.exec B.bytes (B.returns.trans e1) (fun t ht _ => hq t ht) hS.2.2.2.1.2.2 e3 hlk
  · exact W.aret B.exec B.bytes (B.returns.trans e1) e2 (Or.inr ⟨_, rfl⟩) (fun t ht _ => hq t ht) hS.2.2.2.1.2.2 e3 hlk
section CallRules
variable {sc : am_S} {M M1 : am_M} {d bc bs bc1 bs1 pc q : Nat} {ls : am_L} {st as : List Value} {w : am_W} {F F1 : Option Value → am_W → Prop}
theorem am_free {tc : Nat → ClassId} {D : va_G} {A : Nat → Prop} {s : State} {r : Nat → Nat} {H : Heap} {locs : List Loc} (hS : am_Sm sc tc D A s r w H locs) (hA : ∀ q, s.heap.size ≤ q → A q) : ∀ q, va_A (am_cw tc r w) H.size q → A q := by
  intro q h
  rcases h with ⟨k, e, h⟩ | h
  · exact hS.2.2.1.2 k (q, e) h
  · exact hA q (Nat.le_trans hS.2.2.2.1.1 h)
theorem am_call {p : Program} {l : Launch} {e : Env} {R : Room} {s : State} {m : MethodId} {args : Array Value} {below : List Frame} {meth : Method} {c : Code} {Q : State → Prop} {tc : Nat → ClassId} {D : va_G} {A : Nat → Prop} {r : Nat → Nat} {H : Heap} {locs : List Loc} {cells slots : Nat} {sl : Array Slot} {st0 rest : List Value} {a : Array Value}
    (hr : va_Run p l e R s m args below meth c H locs cells slots bc1 bs1 (F0 m pc sl st0) rest (am_Q tc D r w.length F1 (va_A (am_cw tc r w) H.size) a) (va_A (am_cw tc r w) H.size)) (hS : am_Sm sc tc D A s r w H locs) (hA : ∀ q, s.heap.size ≤ q → A q)
    (kk : ∀ (v : Option Value) (w1 : am_W) (r1 : Nat → Nat) (H1 : Heap) (locs1 : List Loc), F1 v w1 → am_Sm sc tc D A s r1 w1 H1 locs1 → (∀ a, a ≤ w.length → r1 a = r a) → w.length ≤ w1.length → am_wo w1.length v → W p l e R s m args below meth c H1 locs1 (cells + bc1) (slots + bs1) Q (F0 m (pc + 3) sl ((v.map (am_cv r1)).toList ++ rest))) :
    W p l e R s m args below meth c H locs cells slots Q (F0 m pc sl st0) := by
  intro T hT X
  obtain ⟨v, st₀, t, T', L, h0, X', hL, e1, e2, ⟨⟨v1, w1, r1, hv, hF, hw1, hx, hle, hwo, hP1, hD1⟩, hz, hk⟩, st2⟩ := hr T hT X
  cases hv
  have hf := am_free hS hA
  rw [h0] at hz hk
  have hS1 : va_S A s.heap T'.heap (locs ++ L) := ⟨Nat.le_trans hS.2.2.2.1.1 (by rw [e1]; exact hz), fun q g1 g2 => by rw [e1, hk q (Nat.lt_of_lt_of_le g1 hS.2.2.2.1.1) (fun z => g2 (hf q z))]; exact hS.2.2.2.1.2.1 q g1 g2, fun q hq => by
    rcases List.mem_append.mp hq with h | h
    · exact hS.2.2.2.1.2.2 q h
    · exact hf _ (hL q h)⟩
  obtain ⟨t2, a1, b1⟩ := kk v1 w1 r1 T'.heap (locs ++ L) hF ⟨hw1, by rw [e1]; exact hP1, hD1.weaken (fun _ _ _ h => hf _ h), hS1, am_X_ext (hx 0 (Nat.zero_le _)) hS.2.2.2.2⟩ hx hle hwo T' rfl X'
  exact ⟨t2, st2 t2 a1, b1⟩
theorem am_cat (r : Nat → Nat) (st : List Value) : ((st.map (am_cv r)).map fun v => v.category) = st.map fun v => v.category := by
  rw [List.map_map]; apply List.map_congr_left; intro v _; exact am_cv_cat r v
theorem am_blind {tc : Nat → ClassId} {D : va_G} {r : Nat → Nat} {sz : Nat} {av : List Value} : FrameBlind (va_Pc av (am_Pre tc D r w sz)) := fun a U g mk q => by
  obtain ⟨q0, q1, qP, qK, qD, qN⟩ := q
  exact ⟨q0, q1, qP, va_K.moved (u := U) (U := U.calling g mk a) (Vm.Alike.refl U.vm) qK, qD, fun x hx => va_Nw.same (u := U) (U := U.calling g mk a) (am_Nw_onT (List.mem_filter.mp hx).2) rfl (qN x hx)⟩
theorem am_pre {tc : Nat → ClassId} {D : va_G} {A : Nat → Prop} {p : Program} {R : Room} {s : State} {m : MethodId} {args : Array Value} {meth : Method} {c : Code} {r : Nat → Nat} {H : Heap} {locs : List Loc} {av : List Value} (C0 : am_Cx M d tc D A p R s m args meth c) (hS : am_Sm sc tc D A s r w H locs) : ∀ U : State, U.heap = H → s.WarmedH U.vm → va_Pc av (am_Pre tc D r w H.size) av.toArray U := fun U hU hW =>
  ⟨rfl, by rw [hU], by rw [hU]; exact hS.2.1, va_K.moved hW.alike C0.2.2.2.2.2.2.2.1, hS.2.2.1.weaken (fun _ _ _ _ => trivial), fun x hx => am_Nw_warm (List.mem_filter.mp hx).2 hW (C0.2.2.2.2.2.2.1 x hx)⟩
/-- what goes on behind a call -/
theorem am_back {p : Program} {l : Launch} {e : Env} {R : Room} {s : State} {m : MethodId} {args : Array Value} {below : List Frame} {meth : Method} {c : Code} {Q : State → Prop} {tc : Nat → ClassId} {D : va_G} {A : Nat → Prop} {r : Nat → Nat} {cells slots mc ms : Nat} {sl : Array Slot}
    (k : ∀ v w1, F1 v w1 → am_Wp sc M d bc bs (pc + 3) ls (v.toList ++ st) w1 F) (C0 : am_Cx M d tc D A p R s m args meth c) (hl : lv_has sl M.2.2.1 (am_cl r ls)) (wl : am_wl w.length ls) (ws : am_ws w.length st) (h1 : cells + (bc + bc1) ≤ mc) (h2 : slots + (bs + bs1) ≤ ms) (h3 : mc ≤ R.cells) (h4 : ms ≤ R.slots) (hE : am_End sc M p l e R s m args below meth c Q tc D A mc ms r w.length F) :
    ∀ (v : Option Value) (w1 : am_W) (r1 : Nat → Nat) (H1 : Heap) (locs1 : List Loc), F1 v w1 → am_Sm sc tc D A s r1 w1 H1 locs1 → (∀ a, a ≤ w.length → r1 a = r a) → w.length ≤ w1.length → am_wo w1.length v → W p l e R s m args below meth c H1 locs1 (cells + bc1) (slots + bs1) Q (F0 m (pc + 3) sl ((v.map (am_cv r1)).toList ++ st.map (am_cv r))) := by
  intro v w1 r1 H1 locs1 hF hS hx hle hwo
  have hst : am_ws w1.length (v.toList ++ st) := by
    cases v with
    | none => exact am_ws_mono hle ws
    | some x => exact ⟨hwo x rfl, am_ws_mono hle ws⟩
  have k9 := k v w1 hF p l e R s m args below meth c Q tc D A C0 r1 H1 locs1 (cells + bc1) (slots + bs1) mc ms sl hS (by rw [am_cl_ext hx wl]; exact hl) (am_wl_mono hle wl) hst (by omega) (by omega) h3 h4 (am_End_up hx hle hE)
  have e9 : (v.toList ++ st).map (am_cv r1) = (v.map (am_cv r1)).toList ++ st.map (am_cv r) := by
    rw [List.map_append, am_cs_ext hx ws]
    cases v <;> rfl
  rw [e9] at k9
  exact k9
theorem am_args {r : Nat → Nat} {st0 : List Value} {a : Nat} (hst : st0 = as.reverse ++ .ref a :: st) : st0.map (am_cv r) = (as.map (am_cv r)).reverse ++ .ref (r (a + 1)) :: st.map (am_cv r) := by
  rw [hst, List.map_append, List.map_reverse]; rfl
theorem am_argsS {r : Nat → Nat} {st0 : List Value} (hst : st0 = as.reverse ++ st) : st0.map (am_cv r) = (as.map (am_cv r)).reverse ++ st.map (am_cv r) := by
  rw [hst, List.map_append, List.map_reverse]
theorem am_args_ws {n a : Nat} {st0 : List Value} (hst : st0 = as.reverse ++ .ref a :: st) (h : am_ws n st0) : am_ws n (.ref a :: as) ∧ am_ws n st := by
  subst hst
  exact ⟨⟨(am_ws_r h).1, am_ws_rev (am_ws_l h)⟩, (am_ws_r h).2⟩
theorem am_argsS_ws {n : Nat} {st0 : List Value} (hst : st0 = as.reverse ++ st) (h : am_ws n st0) : am_ws n as ∧ am_ws n st := by
  subst hst
  exact ⟨am_ws_rev (am_ws_l h), am_ws_r h⟩
theorem wp_callV {n a ix ci d1 : Nat} {fs : List Value} {T : u_T} {N : Nat} {st0 : List Value} (hd : decode M.2.1 pc = .ok (.invokevirtual ix, 3)) (hq : pc + 3 = q) (hB : am_Bd M1 n) (hlink : Cond.methodLink M.1.cls ix M1.1 ∈ lw_tbl) (hin : Cond.instanceMethod M1.1 ∈ lw_tbl) (hsel : Cond.selects M1.1.cls M1.1 M1.1 ∈ lw_tbl) (hci : vwCl[ci]? = some (M1.1.cls, T, N)) 
    (hn : as.length = n) (hst : st0 = as.reverse ++ .ref a :: st) (hrm : (st.map fun v => v.category).sum ≤ 8) (hlen : (lg_sl (.ref a :: as)).length ≤ M1.2.2.1) (hc : w[a]? = some (.inr (ci, fs)))
    (hdd : d1 + 1 ≤ d) (h : am_Wp none M1 d1 bc1 bs1 0 (lv_args 0 (.ref a :: as)) [] w F1) (k : ∀ v w1, F1 v w1 → am_Wp sc M d bc bs q ls (v.toList ++ st) w1 F) : am_Wp sc M d (bc + bc1) (bs + bs1) pc ls st0 w F := by
  subst hq
  intro p l e R s m args below meth c Q tc D A C0 r H locs cells slots mc ms sl hS hl wl ws h1 h2 h3 h4 hE
  obtain ⟨wa, wst⟩ := am_args_ws hst ws
  have ht := C0.2.2.2.2.2.1
  have hfr := C0.2.2.2.2.2.2.2.2.2.2.2
  have hm := am_met hB hlen h l tc D r H.size hS.1 wa
  rw [am_args (r := r) hst]
  have hgc : Cond.code M1.1 M1.2.1 M1.2.2.1 M1.2.2.2 ∈ am_good := am_in hB.2.1 rfl
  refine am_call (F1 := F1) (va_runV (C := M1.1.cls) (As := as.map (am_cv r)) (rest := st.map (am_cv r)) (b := r (a + 1)) (n := n) ⟨C0.1, C0.2.1, C0.2.2.2.1, C0.2.2.2.2.1, ht⟩ hm
    ⟨callB_of (ws' := am_good) n ht (am_goodC hgc) rfl rfl rfl (ht _ (am_in hB.2.2.1 rfl)) (ht _ (am_in hlink rfl)) hB.2.2.2.1 ⟨by show d1 + 1 ≤ R.frames; omega, by have := hB.2.2.2.2; show 8 + (M1.2.2.1 + 11) + d1 * 64 ≤ R.locals; omega⟩, ht _ (am_in hin rfl), ht _ (am_in hsel rfl)⟩
    ⟨am_blind, va_recv C0.2.2.2.2.2.2.2.1 hS.2.1 hci (am_cw_at hc), am_pre C0 hS⟩ rfl (by rw [List.length_map]; exact hn) hl.1 rfl (lv_room (by rw [am_cat]; exact hrm)) hd ⟨by omega, by omega⟩) hS C0.2.2.2.2.2.2.2.2.2.2.1 (am_back k C0 hl wl wst h1 h2 h3 h4 hE)
theorem wp_callVN {n a ix ci d1 : Nat} {host : String} {fs : List Value} {T : u_T} {N : Nat} {st0 : List Value} (hd : decode M.2.1 pc = .ok (.invokevirtual ix, 3)) (hq : pc + 3 = q) (hB : am_Bd M1 n) (hlink : Cond.methodLinkNest M.1.cls ix M1.1 host ∈ lw_tbl) (hin : Cond.instanceMethod M1.1 ∈ lw_tbl) (hsel : Cond.selects M1.1.cls M1.1 M1.1 ∈ lw_tbl) (hci : vwCl[ci]? = some (M1.1.cls, T, N)) 
    (hn : as.length = n) (hst : st0 = as.reverse ++ .ref a :: st) (hrm : (st.map fun v => v.category).sum ≤ 8) (hlen : (lg_sl (.ref a :: as)).length ≤ M1.2.2.1) (hc : w[a]? = some (.inr (ci, fs)))
    (hdd : d1 + 1 ≤ d) (h : am_Wp none M1 d1 bc1 bs1 0 (lv_args 0 (.ref a :: as)) [] w F1) (k : ∀ v w1, F1 v w1 → am_Wp sc M d bc bs q ls (v.toList ++ st) w1 F) : am_Wp sc M d (bc + bc1) (bs + bs1) pc ls st0 w F := by
  subst hq
  intro p l e R s m args below meth c Q tc D A C0 r H locs cells slots mc ms sl hS hl wl ws h1 h2 h3 h4 hE
  obtain ⟨wa, wst⟩ := am_args_ws hst ws
  have ht := C0.2.2.2.2.2.1
  have hfr := C0.2.2.2.2.2.2.2.2.2.2.2
  have hm := am_met hB hlen h l tc D r H.size hS.1 wa
  rw [am_args (r := r) hst]
  have hgc : Cond.code M1.1 M1.2.1 M1.2.2.1 M1.2.2.2 ∈ am_good := am_in hB.2.1 rfl
  refine am_call (F1 := F1) (va_runVN (C := M1.1.cls) (As := as.map (am_cv r)) (rest := st.map (am_cv r)) (b := r (a + 1)) (n := n) ⟨C0.1, C0.2.1, C0.2.2.2.1, C0.2.2.2.2.1, ht⟩ hm
    ⟨va_cnB (ws' := am_good) n ht (am_goodC hgc) rfl rfl rfl (C0.2.2.2.2.2.2.1 _ (am_inN hlink rfl)) (ht _ (am_in hB.2.2.1 rfl)) hB.2.2.2.1 ⟨by show d1 + 1 ≤ R.frames; omega, by have := hB.2.2.2.2; show 8 + (M1.2.2.1 + 11) + d1 * 64 ≤ R.locals; omega⟩, ht _ (am_in hin rfl), ht _ (am_in hsel rfl)⟩
    ⟨am_blind, va_recv C0.2.2.2.2.2.2.2.1 hS.2.1 hci (am_cw_at hc), am_pre C0 hS⟩ rfl (by rw [List.length_map]; exact hn) hl.1 rfl (lv_room (by rw [am_cat]; exact hrm)) hd ⟨by omega, by omega⟩) hS C0.2.2.2.2.2.2.2.2.2.2.1 (am_back k C0 hl wl wst h1 h2 h3 h4 hE)
theorem wp_callS {n ix d1 : Nat} {st0 : List Value} (hd : decode M.2.1 pc = .ok (.invokestatic ix, 3)) (hq : pc + 3 = q) (hB : am_Bd M1 n) (hlink : Cond.methodLink M.1.cls ix M1.1 ∈ lw_tbl) (hsta : Cond.static M1.1 ∈ lw_tbl) 
    (hn : as.length = n) (hst : st0 = as.reverse ++ st) (hrm : (st.map fun v => v.category).sum ≤ 8) (hlen : (lg_sl as).length ≤ M1.2.2.1)
    (hdd : d1 + 1 ≤ d) (h : am_Wp none M1 d1 bc1 bs1 0 (lv_args 0 as) [] w F1) (k : ∀ v w1, F1 v w1 → am_Wp sc M d bc bs q ls (v.toList ++ st) w1 F) : am_Wp sc M d (bc + bc1) (bs + bs1) pc ls st0 w F := by
  subst hq
  intro p l e R s m args below meth c Q tc D A C0 r H locs cells slots mc ms sl hS hl wl ws h1 h2 h3 h4 hE
  obtain ⟨wa, wst⟩ := am_argsS_ws hst ws
  have ht := C0.2.2.2.2.2.1
  have hfr := C0.2.2.2.2.2.2.2.2.2.2.2
  have hm := am_met hB hlen h l tc D r H.size hS.1 wa
  rw [am_argsS (r := r) hst]
  have hgc : Cond.code M1.1 M1.2.1 M1.2.2.1 M1.2.2.2 ∈ am_good := am_in hB.2.1 rfl
  refine am_call (F1 := F1) (va_runS (As := as.map (am_cv r)) (rest := st.map (am_cv r)) (n := n) ⟨C0.1, C0.2.1, C0.2.2.2.1, C0.2.2.2.2.1, ht⟩ hm
    ⟨callB_of (ws' := am_good) n ht (am_goodC hgc) rfl rfl rfl (ht _ (am_in hB.2.2.1 rfl)) (ht _ (am_in hlink rfl)) hB.2.2.2.1 ⟨by show d1 + 1 ≤ R.frames; omega, by have := hB.2.2.2.2; show 8 + (M1.2.2.1 + 11) + d1 * 64 ≤ R.locals; omega⟩, ht _ (am_in hsta rfl)⟩
    ⟨am_blind, am_pre C0 hS⟩ rfl (by rw [List.length_map]; exact hn) hl.1 rfl (lv_room (by rw [am_cat]; exact hrm)) hd ⟨by omega, by omega⟩) hS C0.2.2.2.2.2.2.2.2.2.2.1 (am_back k C0 hl wl wst h1 h2 h3 h4 hE)
theorem wp_callSN {n ix d1 : Nat} {host : String} {st0 : List Value} (hd : decode M.2.1 pc = .ok (.invokestatic ix, 3)) (hq : pc + 3 = q) (hB : am_Bd M1 n) (hlink : Cond.methodLinkNest M.1.cls ix M1.1 host ∈ lw_tbl) (hsta : Cond.static M1.1 ∈ lw_tbl) 
    (hn : as.length = n) (hst : st0 = as.reverse ++ st) (hrm : (st.map fun v => v.category).sum ≤ 8) (hlen : (lg_sl as).length ≤ M1.2.2.1)
    (hdd : d1 + 1 ≤ d) (h : am_Wp none M1 d1 bc1 bs1 0 (lv_args 0 as) [] w F1) (k : ∀ v w1, F1 v w1 → am_Wp sc M d bc bs q ls (v.toList ++ st) w1 F) : am_Wp sc M d (bc + bc1) (bs + bs1) pc ls st0 w F := by
  subst hq
  intro p l e R s m args below meth c Q tc D A C0 r H locs cells slots mc ms sl hS hl wl ws h1 h2 h3 h4 hE
  obtain ⟨wa, wst⟩ := am_argsS_ws hst ws
  have ht := C0.2.2.2.2.2.1
  have hfr := C0.2.2.2.2.2.2.2.2.2.2.2
  have hm := am_met hB hlen h l tc D r H.size hS.1 wa
  rw [am_argsS (r := r) hst]
  have hgc : Cond.code M1.1 M1.2.1 M1.2.2.1 M1.2.2.2 ∈ am_good := am_in hB.2.1 rfl
  refine am_call (F1 := F1) (va_runSN (As := as.map (am_cv r)) (rest := st.map (am_cv r)) (n := n) ⟨C0.1, C0.2.1, C0.2.2.2.1, C0.2.2.2.2.1, ht⟩ hm
    ⟨va_cnB (ws' := am_good) n ht (am_goodC hgc) rfl rfl rfl (C0.2.2.2.2.2.2.1 _ (am_inN hlink rfl)) (ht _ (am_in hB.2.2.1 rfl)) hB.2.2.2.1 ⟨by show d1 + 1 ≤ R.frames; omega, by have := hB.2.2.2.2; show 8 + (M1.2.2.1 + 11) + d1 * 64 ≤ R.locals; omega⟩, ht _ (am_in hsta rfl), trivial⟩
    ⟨am_blind, am_pre C0 hS⟩ rfl (by rw [List.length_map]; exact hn) hl.1 rfl (lv_room (by rw [am_cat]; exact hrm)) hd ⟨by omega, by omega⟩) hS C0.2.2.2.2.2.2.2.2.2.2.1 (am_back k C0 hl wl wst h1 h2 h3 h4 hE)
theorem wp_callI {n a ix d1 : Nat} {st0 : List Value} (hd : decode M.2.1 pc = .ok (.invokespecial ix, 3)) (hq : pc + 3 = q) (hB : am_Bd M1 n) (hret : M1.2.2.2 = none) (hnm : M1.1.name = "<init>") (hlink : Cond.methodLink M.1.cls ix M1.1 ∈ lw_tbl) (hin : Cond.instanceMethod M1.1 ∈ lw_tbl) 
    (hn : as.length = n) (hst : st0 = as.reverse ++ .ref a :: st) (hrm : (st.map fun v => v.category).sum ≤ 8) (hlen : (lg_sl (.ref a :: as)).length ≤ M1.2.2.1)
    (hdd : d1 + 1 ≤ d) (h : am_Wp none M1 d1 bc1 bs1 0 (lv_args 0 (.ref a :: as)) [] w F1) (k : ∀ v w1, F1 v w1 → am_Wp sc M d bc bs q ls (v.toList ++ st) w1 F) : am_Wp sc M d (bc + bc1) (bs + bs1) pc ls st0 w F := by
  subst hq
  intro p l e R s m args below meth c Q tc D A C0 r H locs cells slots mc ms sl hS hl wl ws h1 h2 h3 h4 hE
  obtain ⟨wa, wst⟩ := am_args_ws hst ws
  have ht := C0.2.2.2.2.2.1
  have hfr := C0.2.2.2.2.2.2.2.2.2.2.2
  have hm := am_met hB hlen h l tc D r H.size hS.1 wa
  rw [am_args (r := r) hst]
  have hcode := hB.2.1
  rw [hret] at hm hcode
  have hgc : Cond.code M1.1 M1.2.1 M1.2.2.1 none ∈ am_good := am_in hcode rfl
  refine am_call (F1 := F1) (va_runI (As := as.map (am_cv r)) (rest := st.map (am_cv r)) (b := r (a + 1)) (n := n) ⟨C0.1, C0.2.1, C0.2.2.2.1, C0.2.2.2.2.1, ht⟩ hm
    ⟨callB_of (ws' := am_good) n ht (am_goodC hgc) rfl rfl rfl (ht _ (am_in hB.2.2.1 rfl)) (ht _ (am_in hlink rfl)) hB.2.2.2.1 ⟨by show d1 + 1 ≤ R.frames; omega, by have := hB.2.2.2.2; show 8 + (M1.2.2.1 + 11) + d1 * 64 ≤ R.locals; omega⟩, hnm, ht _ (am_in hin rfl)⟩
    ⟨am_blind, am_pre C0 hS⟩ rfl (by rw [List.length_map]; exact hn) hl.1 rfl (lv_room (by rw [am_cat]; exact hrm)) hd ⟨by omega, by omega⟩) hS C0.2.2.2.2.2.2.2.2.2.2.1 (am_back k C0 hl wl wst h1 h2 h3 h4 hE)
theorem wp_callIN {n a ix d1 : Nat} {host : String} {st0 : List Value} (hd : decode M.2.1 pc = .ok (.invokespecial ix, 3)) (hq : pc + 3 = q) (hB : am_Bd M1 n) (hret : M1.2.2.2 = none) (hnm : M1.1.name = "<init>") (hlink : Cond.methodLinkNest M.1.cls ix M1.1 host ∈ lw_tbl) (hin : Cond.instanceMethod M1.1 ∈ lw_tbl) 
    (hn : as.length = n) (hst : st0 = as.reverse ++ .ref a :: st) (hrm : (st.map fun v => v.category).sum ≤ 8) (hlen : (lg_sl (.ref a :: as)).length ≤ M1.2.2.1)
    (hdd : d1 + 1 ≤ d) (h : am_Wp none M1 d1 bc1 bs1 0 (lv_args 0 (.ref a :: as)) [] w F1) (k : ∀ v w1, F1 v w1 → am_Wp sc M d bc bs q ls (v.toList ++ st) w1 F) : am_Wp sc M d (bc + bc1) (bs + bs1) pc ls st0 w F := by
  subst hq
  intro p l e R s m args below meth c Q tc D A C0 r H locs cells slots mc ms sl hS hl wl ws h1 h2 h3 h4 hE
  obtain ⟨wa, wst⟩ := am_args_ws hst ws
  have ht := C0.2.2.2.2.2.1
  have hfr := C0.2.2.2.2.2.2.2.2.2.2.2
  have hm := am_met hB hlen h l tc D r H.size hS.1 wa
  rw [am_args (r := r) hst]
  have hcode := hB.2.1
  rw [hret] at hm hcode
  have hgc : Cond.code M1.1 M1.2.1 M1.2.2.1 none ∈ am_good := am_in hcode rfl
  refine am_call (F1 := F1) (va_runIN (As := as.map (am_cv r)) (rest := st.map (am_cv r)) (b := r (a + 1)) (n := n) ⟨C0.1, C0.2.1, C0.2.2.2.1, C0.2.2.2.2.1, ht⟩ hm
    ⟨va_cnB (ws' := am_good) n ht (am_goodC hgc) rfl rfl rfl (C0.2.2.2.2.2.2.1 _ (am_inN hlink rfl)) (ht _ (am_in hB.2.2.1 rfl)) hB.2.2.2.1 ⟨by show d1 + 1 ≤ R.frames; omega, by have := hB.2.2.2.2; show 8 + (M1.2.2.1 + 11) + d1 * 64 ≤ R.locals; omega⟩, hnm, ht _ (am_in hin rfl)⟩
    ⟨am_blind, am_pre C0 hS⟩ rfl (by rw [List.length_map]; exact hn) hl.1 rfl (lv_room (by rw [am_cat]; exact hrm)) hd ⟨by omega, by omega⟩) hS C0.2.2.2.2.2.2.2.2.2.2.1 (am_back k C0 hl wl wst h1 h2 h3 h4 hE)
/-- System.arraycopy between two rows of ints -/
theorem wp_copyi {a b n0 n1 ix : Nat} {f g : Nat → Int32} {sp dp n : Int32} {w' : am_W} (hd : decode M.2.1 pc = .ok (.invokestatic ix, 3)) (hq : pc + 3 = q) (hlink : Cond.methodLink M.1.cls ix arraycopyName ∈ lw_tbl) (hnat : Cond.native arraycopyName ∈ lw_tbl) (hsta : Cond.static arraycopyName ∈ lw_tbl) (hini : Cond.initialized "java/lang/System" ∈ lw_tbl) 
    (hc0 : w[a]? = some (.inl (0, n0, .inl f))) (hc1 : w[b]? = some (.inl (0, n1, .inl g))) (g1 : ¬ sp < 0) (g2 : ¬ dp < 0) (g3 : ¬ n < 0) (g4 : sp.toNatClampNeg + n.toNatClampNeg ≤ n0) (g5 : dp.toNatClampNeg + n.toNatClampNeg ≤ n1) (hrm : (st.map fun v => v.category).sum ≤ 8) (hdd : 1 ≤ d)
    (hw : w.set b (.inl (0, n1, .inl (va_cpy f g sp.toNatClampNeg dp.toNatClampNeg n.toNatClampNeg))) = w') (k : am_Wp sc M d bc bs q ls st w' F) : am_Wp sc M d bc bs pc ls (.int n :: .int dp :: .ref b :: .int sp :: .ref a :: st) w F := by
  subst hq
  subst hw
  intro p l e R s m args below meth c Q tc D A C0 r H locs cells slots mc ms sl hS hl wl ws h1 h2 h3 h4 hE
  have ht := C0.2.2.2.2.2.1
  have hfr := C0.2.2.2.2.2.2.2.2.2.2.2
  have hnw : nativeFrameWords "java/lang/System" "arraycopy" 5 ≤ 40 := by decide +kernel
  refine va_copyi C0.1 C0.2.1 (by rw [C0.2.2.2.1]; exact hl.1.symm) C0.2.2.2.2.1 (ht _ (am_in hlink rfl)) (ht _ (am_in hnat rfl)) (ht _ (am_in hsta rfl)) (ht _ (am_in hini rfl)) C0.2.2.2.2.2.2.2.1 hS.2.1 hS.2.2.1 hS.2.2.2.1 a b 0 0 (am_cw_at hc0) (am_cw_at hc1) (am_tys0 tc) (am_tys0 tc) rfl g1 g2 g3 g4 g5 (fun i hi => rfl) (by omega) (by rw [am_cat]; omega) hd (fun H1 locs1 hP hD hS1 => ?_)
  exact k p l e R s m args below meth c Q tc D A C0 r H1 locs1 cells slots mc ms sl (am_Sm_set hS trivial hP hD hS1) hl (by rw [List.length_set]; exact wl) (by rw [List.length_set]; exact ws.2.2.2.2.2) h1 h2 h3 h4 (by rw [List.length_set]; exact hE)
/-- just this answer, just this world -/
def am_R (v : Option Value) (w : am_W) : Option Value → am_W → Prop := fun v1 w1 => v1 = v ∧ w1 = w
theorem wp_cVr {n a ix ci d1 : Nat} {fs : List Value} {T : u_T} {N : Nat} {st0 : List Value} {w' : am_W} {x : Value} (hd : decode M.2.1 pc = .ok (.invokevirtual ix, 3)) (hq : pc + 3 = q) (hB : am_Bd M1 n) (hlink : Cond.methodLink M.1.cls ix M1.1 ∈ lw_tbl) (hin : Cond.instanceMethod M1.1 ∈ lw_tbl) (hsel : Cond.selects M1.1.cls M1.1 M1.1 ∈ lw_tbl) (hci : vwCl[ci]? = some (M1.1.cls, T, N)) (hn : as.length = n) (hst : st0 = as.reverse ++ (.ref a :: st)) (hrm : (st.map fun v => v.category).sum ≤ 8) (hlen : (lg_sl (.ref a :: as)).length ≤ M1.2.2.1) (hc : w[a]? = some (.inr (ci, fs))) (hdd : d1 + 1 ≤ d) (h : am_Wp none M1 d1 0 0 0 (lv_args 0 (.ref a :: as)) [] w (am_R (some x) w')) (k : am_Wp sc M d bc bs q ls (x :: st) w' F) : am_Wp sc M d bc bs pc ls st0 w F :=
  wp_callV (bc1 := 0) (bs1 := 0) hd hq hB hlink hin hsel hci hn hst hrm hlen hc hdd h (fun v w1 e => by obtain ⟨rfl, rfl⟩ := e; exact k)
theorem wp_cVv {n a ix ci d1 : Nat} {fs : List Value} {T : u_T} {N : Nat} {st0 : List Value} {w' : am_W} (hd : decode M.2.1 pc = .ok (.invokevirtual ix, 3)) (hq : pc + 3 = q) (hB : am_Bd M1 n) (hlink : Cond.methodLink M.1.cls ix M1.1 ∈ lw_tbl) (hin : Cond.instanceMethod M1.1 ∈ lw_tbl) (hsel : Cond.selects M1.1.cls M1.1 M1.1 ∈ lw_tbl) (hci : vwCl[ci]? = some (M1.1.cls, T, N)) (hn : as.length = n) (hst : st0 = as.reverse ++ (.ref a :: st)) (hrm : (st.map fun v => v.category).sum ≤ 8) (hlen : (lg_sl (.ref a :: as)).length ≤ M1.2.2.1) (hc : w[a]? = some (.inr (ci, fs))) (hdd : d1 + 1 ≤ d) (h : am_Wp none M1 d1 0 0 0 (lv_args 0 (.ref a :: as)) [] w (am_R (none) w')) (k : am_Wp sc M d bc bs q ls st w' F) : am_Wp sc M d bc bs pc ls st0 w F :=
  wp_callV (bc1 := 0) (bs1 := 0) hd hq hB hlink hin hsel hci hn hst hrm hlen hc hdd h (fun v w1 e => by obtain ⟨rfl, rfl⟩ := e; exact k)
theorem wp_cVNr {n a ix ci d1 : Nat} {host : String} {fs : List Value} {T : u_T} {N : Nat} {st0 : List Value} {w' : am_W} {x : Value} (hd : decode M.2.1 pc = .ok (.invokevirtual ix, 3)) (hq : pc + 3 = q) (hB : am_Bd M1 n) (hlink : Cond.methodLinkNest M.1.cls ix M1.1 host ∈ lw_tbl) (hin : Cond.instanceMethod M1.1 ∈ lw_tbl) (hsel : Cond.selects M1.1.cls M1.1 M1.1 ∈ lw_tbl) (hci : vwCl[ci]? = some (M1.1.cls, T, N)) (hn : as.length = n) (hst : st0 = as.reverse ++ (.ref a :: st)) (hrm : (st.map fun v => v.category).sum ≤ 8) (hlen : (lg_sl (.ref a :: as)).length ≤ M1.2.2.1) (hc : w[a]? = some (.inr (ci, fs))) (hdd : d1 + 1 ≤ d) (h : am_Wp none M1 d1 0 0 0 (lv_args 0 (.ref a :: as)) [] w (am_R (some x) w')) (k : am_Wp sc M d bc bs q ls (x :: st) w' F) : am_Wp sc M d bc bs pc ls st0 w F :=
  wp_callVN (bc1 := 0) (bs1 := 0) hd hq hB hlink hin hsel hci hn hst hrm hlen hc hdd h (fun v w1 e => by obtain ⟨rfl, rfl⟩ := e; exact k)
theorem wp_cVNv {n a ix ci d1 : Nat} {host : String} {fs : List Value} {T : u_T} {N : Nat} {st0 : List Value} {w' : am_W} (hd : decode M.2.1 pc = .ok (.invokevirtual ix, 3)) (hq : pc + 3 = q) (hB : am_Bd M1 n) (hlink : Cond.methodLinkNest M.1.cls ix M1.1 host ∈ lw_tbl) (hin : Cond.instanceMethod M1.1 ∈ lw_tbl) (hsel : Cond.selects M1.1.cls M1.1 M1.1 ∈ lw_tbl) (hci : vwCl[ci]? = some (M1.1.cls, T, N)) (hn : as.length = n) (hst : st0 = as.reverse ++ (.ref a :: st)) (hrm : (st.map fun v => v.category).sum ≤ 8) (hlen : (lg_sl (.ref a :: as)).length ≤ M1.2.2.1) (hc : w[a]? = some (.inr (ci, fs))) (hdd : d1 + 1 ≤ d) (h : am_Wp none M1 d1 0 0 0 (lv_args 0 (.ref a :: as)) [] w (am_R (none) w')) (k : am_Wp sc M d bc bs q ls st w' F) : am_Wp sc M d bc bs pc ls st0 w F :=
  wp_callVN (bc1 := 0) (bs1 := 0) hd hq hB hlink hin hsel hci hn hst hrm hlen hc hdd h (fun v w1 e => by obtain ⟨rfl, rfl⟩ := e; exact k)
theorem wp_cSr {n ix d1 : Nat} {st0 : List Value} {w' : am_W} {x : Value} (hd : decode M.2.1 pc = .ok (.invokestatic ix, 3)) (hq : pc + 3 = q) (hB : am_Bd M1 n) (hlink : Cond.methodLink M.1.cls ix M1.1 ∈ lw_tbl) (hsta : Cond.static M1.1 ∈ lw_tbl) (hn : as.length = n) (hst : st0 = as.reverse ++ (st)) (hrm : (st.map fun v => v.category).sum ≤ 8) (hlen : (lg_sl (as)).length ≤ M1.2.2.1)  (hdd : d1 + 1 ≤ d) (h : am_Wp none M1 d1 0 0 0 (lv_args 0 (as)) [] w (am_R (some x) w')) (k : am_Wp sc M d bc bs q ls (x :: st) w' F) : am_Wp sc M d bc bs pc ls st0 w F :=
  wp_callS (bc1 := 0) (bs1 := 0) hd hq hB hlink hsta hn hst hrm hlen  hdd h (fun v w1 e => by obtain ⟨rfl, rfl⟩ := e; exact k)
theorem wp_cSv {n ix d1 : Nat} {st0 : List Value} {w' : am_W} (hd : decode M.2.1 pc = .ok (.invokestatic ix, 3)) (hq : pc + 3 = q) (hB : am_Bd M1 n) (hlink : Cond.methodLink M.1.cls ix M1.1 ∈ lw_tbl) (hsta : Cond.static M1.1 ∈ lw_tbl) (hn : as.length = n) (hst : st0 = as.reverse ++ (st)) (hrm : (st.map fun v => v.category).sum ≤ 8) (hlen : (lg_sl (as)).length ≤ M1.2.2.1)  (hdd : d1 + 1 ≤ d) (h : am_Wp none M1 d1 0 0 0 (lv_args 0 (as)) [] w (am_R (none) w')) (k : am_Wp sc M d bc bs q ls st w' F) : am_Wp sc M d bc bs pc ls st0 w F :=
  wp_callS (bc1 := 0) (bs1 := 0) hd hq hB hlink hsta hn hst hrm hlen  hdd h (fun v w1 e => by obtain ⟨rfl, rfl⟩ := e; exact k)
theorem wp_cSNr {n ix d1 : Nat} {host : String} {st0 : List Value} {w' : am_W} {x : Value} (hd : decode M.2.1 pc = .ok (.invokestatic ix, 3)) (hq : pc + 3 = q) (hB : am_Bd M1 n) (hlink : Cond.methodLinkNest M.1.cls ix M1.1 host ∈ lw_tbl) (hsta : Cond.static M1.1 ∈ lw_tbl) (hn : as.length = n) (hst : st0 = as.reverse ++ (st)) (hrm : (st.map fun v => v.category).sum ≤ 8) (hlen : (lg_sl (as)).length ≤ M1.2.2.1)  (hdd : d1 + 1 ≤ d) (h : am_Wp none M1 d1 0 0 0 (lv_args 0 (as)) [] w (am_R (some x) w')) (k : am_Wp sc M d bc bs q ls (x :: st) w' F) : am_Wp sc M d bc bs pc ls st0 w F :=
  wp_callSN (bc1 := 0) (bs1 := 0) hd hq hB hlink hsta hn hst hrm hlen  hdd h (fun v w1 e => by obtain ⟨rfl, rfl⟩ := e; exact k)
theorem wp_cSNv {n ix d1 : Nat} {host : String} {st0 : List Value} {w' : am_W} (hd : decode M.2.1 pc = .ok (.invokestatic ix, 3)) (hq : pc + 3 = q) (hB : am_Bd M1 n) (hlink : Cond.methodLinkNest M.1.cls ix M1.1 host ∈ lw_tbl) (hsta : Cond.static M1.1 ∈ lw_tbl) (hn : as.length = n) (hst : st0 = as.reverse ++ (st)) (hrm : (st.map fun v => v.category).sum ≤ 8) (hlen : (lg_sl (as)).length ≤ M1.2.2.1)  (hdd : d1 + 1 ≤ d) (h : am_Wp none M1 d1 0 0 0 (lv_args 0 (as)) [] w (am_R (none) w')) (k : am_Wp sc M d bc bs q ls st w' F) : am_Wp sc M d bc bs pc ls st0 w F :=
  wp_callSN (bc1 := 0) (bs1 := 0) hd hq hB hlink hsta hn hst hrm hlen  hdd h (fun v w1 e => by obtain ⟨rfl, rfl⟩ := e; exact k)
end CallRules
end
section
/-! WORDS of the tables, by their places -/
theorem ini_L : Jvm.Cond.initialized "IndependenceRowsLaw" ∈ lw_tbl := am_tb 0 (by rfl)
theorem ini_X : Jvm.Cond.initialized "IndependenceRows" ∈ lw_tbl := am_tb 1 (by rfl)
theorem ini_G : Jvm.Cond.initialized "IndependenceRows$Graph" ∈ lw_tbl := am_tb 2 (by rfl)
theorem ini_T : Jvm.Cond.initialized "IndependenceRows$Tables" ∈ lw_tbl := am_tb 3 (by rfl)
theorem ini_V : Jvm.Cond.initialized "IndependenceRows$Walks" ∈ lw_tbl := am_tb 4 (by rfl)
theorem ini_K : Jvm.Cond.initialized "IndependenceRows$Kin" ∈ lw_tbl := am_tb 5 (by rfl)
theorem ini_N : Jvm.Cond.initialized "IndependenceRows$Margin" ∈ lw_tbl := am_tb 6 (by rfl)
theorem ini_Y : Jvm.Cond.initialized "IndependenceRowsModel" ∈ lw_tbl := am_tb 7 (by rfl)
theorem ini_A : Jvm.Cond.initialized "java/util/Arrays" ∈ lw_tbl := am_tb 8 (by rfl)
theorem ini_I : Jvm.Cond.initialized "java/lang/Integer" ∈ lw_tbl := am_tb 9 (by rfl)
theorem ini_S : Jvm.Cond.initialized "java/lang/System" ∈ lw_tbl := am_tb 10 (by rfl)
theorem ck_L_7 : Jvm.Cond.classLink "IndependenceRowsLaw" (7 : Nat) "IndependenceRows" ∈ lw_tbl := am_tb 11 (by rfl)
theorem ins_X : Jvm.Cond.instantiable "IndependenceRows" (10 : Nat) ∈ lw_tbl := am_tb 12 (by rfl)
theorem lk_L_9 : Jvm.Cond.methodLink "IndependenceRowsLaw" (9 : Nat) ({ cls := "IndependenceRows", name := "<init>", desc := "()V" } : Jvm.MethodName) ∈ lw_tbl := am_tb 13 (by rfl)
theorem im_X_init : Jvm.Cond.instanceMethod ({ cls := "IndependenceRows", name := "<init>", desc := "()V" } : Jvm.MethodName) ∈ lw_tbl := am_tb 14 (by rfl)
theorem co_X_init : Jvm.Cond.code ({ cls := "IndependenceRows", name := "<init>", desc := "()V" } : Jvm.MethodName) prog_1_method_1_code (1 : Nat) (Option.none : Option Jvm.ClassFile.FieldType) ∈ lw_tbl := am_tb 15 (by rfl)
theorem lk_X_3 : Jvm.Cond.methodLink "IndependenceRows" (3 : Nat) ({ cls := "java/lang/Object", name := "<init>", desc := "()V" } : Jvm.MethodName) ∈ lw_tbl := am_tb 16 (by rfl)
theorem im_O_init : Jvm.Cond.instanceMethod ({ cls := "java/lang/Object", name := "<init>", desc := "()V" } : Jvm.MethodName) ∈ lw_tbl := am_tb 17 (by rfl)
theorem co_O_init : Jvm.Cond.code ({ cls := "java/lang/Object", name := "<init>", desc := "()V" } : Jvm.MethodName) object_method_1_code (1 : Nat) (Option.none : Option Jvm.ClassFile.FieldType) ∈ lw_tbl := am_tb 18 (by rfl)
theorem ck_X_9 : Jvm.Cond.classLink "IndependenceRows" (9 : Nat) "IndependenceRows$Graph" ∈ lw_tbl := am_tb 19 (by rfl)
theorem ins_G : Jvm.Cond.instantiable "IndependenceRows$Graph" (4 : Nat) ∈ lw_tbl := am_tb 20 (by rfl)
theorem lk_X_11 : Jvm.Cond.methodLinkNest "IndependenceRows" (11 : Nat) ({ cls := "IndependenceRows$Graph", name := "<init>", desc := "()V" } : Jvm.MethodName) "IndependenceRows" ∈ lw_tbl := am_tb 21 (by rfl)
theorem im_G_init : Jvm.Cond.instanceMethod ({ cls := "IndependenceRows$Graph", name := "<init>", desc := "()V" } : Jvm.MethodName) ∈ lw_tbl := am_tb 22 (by rfl)
theorem co_G_init : Jvm.Cond.code ({ cls := "IndependenceRows$Graph", name := "<init>", desc := "()V" } : Jvm.MethodName) prog_2_method_1_code (1 : Nat) (Option.none : Option Jvm.ClassFile.FieldType) ∈ lw_tbl := am_tb 23 (by rfl)
theorem lk_G_3 : Jvm.Cond.methodLink "IndependenceRows$Graph" (3 : Nat) ({ cls := "java/lang/Object", name := "<init>", desc := "()V" } : Jvm.MethodName) ∈ lw_tbl := am_tb 24 (by rfl)
theorem fk_G_9 : Jvm.Cond.fieldLink "IndependenceRows$Graph" (9 : Nat) "IndependenceRows$Graph" "places" "I" ∈ lw_tbl := am_tb 25 (by rfl)
theorem fk_X_60 : Jvm.Cond.fieldLinkNest "IndependenceRows" (60 : Nat) "IndependenceRows$Graph" "places" "I" "IndependenceRows" ∈ lw_tbl := am_tb 26 (by rfl)
theorem fk_K_55 : Jvm.Cond.fieldLinkNest "IndependenceRows$Kin" (55 : Nat) "IndependenceRows$Graph" "places" "I" "IndependenceRows" ∈ lw_tbl := am_tb 27 (by rfl)
theorem fk_T_37 : Jvm.Cond.fieldLinkNest "IndependenceRows$Tables" (37 : Nat) "IndependenceRows$Graph" "places" "I" "IndependenceRows" ∈ lw_tbl := am_tb 28 (by rfl)
theorem fk_G_15 : Jvm.Cond.fieldLink "IndependenceRows$Graph" (15 : Nat) "IndependenceRows$Graph" "arcs" "I" ∈ lw_tbl := am_tb 29 (by rfl)
theorem fk_X_96 : Jvm.Cond.fieldLinkNest "IndependenceRows" (96 : Nat) "IndependenceRows$Graph" "arcs" "I" "IndependenceRows" ∈ lw_tbl := am_tb 30 (by rfl)
theorem fk_G_18 : Jvm.Cond.fieldLink "IndependenceRows$Graph" (18 : Nat) "IndependenceRows$Graph" "parents" "[I" ∈ lw_tbl := am_tb 31 (by rfl)
theorem fk_V_41 : Jvm.Cond.fieldLinkNest "IndependenceRows$Walks" (41 : Nat) "IndependenceRows$Graph" "parents" "[I" "IndependenceRows" ∈ lw_tbl := am_tb 32 (by rfl)
theorem fk_T_48 : Jvm.Cond.fieldLinkNest "IndependenceRows$Tables" (48 : Nat) "IndependenceRows$Graph" "parents" "[I" "IndependenceRows" ∈ lw_tbl := am_tb 33 (by rfl)
theorem fk_X_123 : Jvm.Cond.fieldLinkNest "IndependenceRows" (123 : Nat) "IndependenceRows$Graph" "parents" "[I" "IndependenceRows" ∈ lw_tbl := am_tb 34 (by rfl)
theorem fk_G_22 : Jvm.Cond.fieldLink "IndependenceRows$Graph" (22 : Nat) "IndependenceRows$Graph" "children" "[I" ∈ lw_tbl := am_tb 35 (by rfl)
theorem fk_V_46 : Jvm.Cond.fieldLinkNest "IndependenceRows$Walks" (46 : Nat) "IndependenceRows$Graph" "children" "[I" "IndependenceRows" ∈ lw_tbl := am_tb 36 (by rfl)
theorem fk_K_58 : Jvm.Cond.fieldLinkNest "IndependenceRows$Kin" (58 : Nat) "IndependenceRows$Graph" "children" "[I" "IndependenceRows" ∈ lw_tbl := am_tb 37 (by rfl)
theorem fk_X_85 : Jvm.Cond.fieldLinkNest "IndependenceRows" (85 : Nat) "IndependenceRows$Graph" "children" "[I" "IndependenceRows" ∈ lw_tbl := am_tb 38 (by rfl)
theorem arr_int : Jvm.Cond.arrayClass Jvm.ClassFile.FieldType.int ∈ lw_tbl := am_tb 48 (by rfl)
theorem ck_X_23 : Jvm.Cond.classLink "IndependenceRows" (23 : Nat) "IndependenceRows$Tables" ∈ lw_tbl := am_tb 49 (by rfl)
theorem ins_T : Jvm.Cond.instantiable "IndependenceRows$Tables" (3 : Nat) ∈ lw_tbl := am_tb 50 (by rfl)
theorem lk_X_25 : Jvm.Cond.methodLinkNest "IndependenceRows" (25 : Nat) ({ cls := "IndependenceRows$Tables", name := "<init>", desc := "()V" } : Jvm.MethodName) "IndependenceRows" ∈ lw_tbl := am_tb 51 (by rfl)
theorem im_T_init : Jvm.Cond.instanceMethod ({ cls := "IndependenceRows$Tables", name := "<init>", desc := "()V" } : Jvm.MethodName) ∈ lw_tbl := am_tb 52 (by rfl)
theorem co_T_init : Jvm.Cond.code ({ cls := "IndependenceRows$Tables", name := "<init>", desc := "()V" } : Jvm.MethodName) prog_5_method_1_code (1 : Nat) (Option.none : Option Jvm.ClassFile.FieldType) ∈ lw_tbl := am_tb 53 (by rfl)
theorem lk_T_3 : Jvm.Cond.methodLink "IndependenceRows$Tables" (3 : Nat) ({ cls := "java/lang/Object", name := "<init>", desc := "()V" } : Jvm.MethodName) ∈ lw_tbl := am_tb 54 (by rfl)
theorem ck_T_9 : Jvm.Cond.classLink "IndependenceRows$Tables" (9 : Nat) "[[I" ∈ lw_tbl := am_tb 55 (by rfl)
theorem aov : Jvm.Cond.arrayOver (Jvm.ClassFile.FieldType.array Jvm.ClassFile.FieldType.int) ∈ lw_tbl := am_tb 56 (by rfl)
theorem fk_T_11 : Jvm.Cond.fieldLink "IndependenceRows$Tables" (11 : Nat) "IndependenceRows$Tables" "eighths" "[[I" ∈ lw_tbl := am_tb 57 (by rfl)
theorem fk_X_109 : Jvm.Cond.fieldLinkNest "IndependenceRows" (109 : Nat) "IndependenceRows$Tables" "eighths" "[[I" "IndependenceRows" ∈ lw_tbl := am_tb 58 (by rfl)
theorem fk_T_16 : Jvm.Cond.fieldLink "IndependenceRows$Tables" (16 : Nat) "IndependenceRows$Tables" "held" "I" ∈ lw_tbl := am_tb 59 (by rfl)
theorem fk_X_126 : Jvm.Cond.fieldLinkNest "IndependenceRows" (126 : Nat) "IndependenceRows$Tables" "held" "I" "IndependenceRows" ∈ lw_tbl := am_tb 60 (by rfl)
theorem fk_T_20 : Jvm.Cond.fieldLink "IndependenceRows$Tables" (20 : Nat) "IndependenceRows$Tables" "heldValues" "I" ∈ lw_tbl := am_tb 61 (by rfl)
theorem ck_X_30 : Jvm.Cond.classLink "IndependenceRows" (30 : Nat) "IndependenceRows$Walks" ∈ lw_tbl := am_tb 69 (by rfl)
theorem ins_V : Jvm.Cond.instantiable "IndependenceRows$Walks" (8 : Nat) ∈ lw_tbl := am_tb 70 (by rfl)
theorem lk_X_32 : Jvm.Cond.methodLinkNest "IndependenceRows" (32 : Nat) ({ cls := "IndependenceRows$Walks", name := "<init>", desc := "()V" } : Jvm.MethodName) "IndependenceRows" ∈ lw_tbl := am_tb 71 (by rfl)
theorem im_V_init : Jvm.Cond.instanceMethod ({ cls := "IndependenceRows$Walks", name := "<init>", desc := "()V" } : Jvm.MethodName) ∈ lw_tbl := am_tb 72 (by rfl)
theorem co_V_init : Jvm.Cond.code ({ cls := "IndependenceRows$Walks", name := "<init>", desc := "()V" } : Jvm.MethodName) prog_6_method_1_code (1 : Nat) (Option.none : Option Jvm.ClassFile.FieldType) ∈ lw_tbl := am_tb 73 (by rfl)
theorem lk_V_3 : Jvm.Cond.methodLink "IndependenceRows$Walks" (3 : Nat) ({ cls := "java/lang/Object", name := "<init>", desc := "()V" } : Jvm.MethodName) ∈ lw_tbl := am_tb 74 (by rfl)
theorem fk_V_9 : Jvm.Cond.fieldLink "IndependenceRows$Walks" (9 : Nat) "IndependenceRows$Walks" "into" "[I" ∈ lw_tbl := am_tb 75 (by rfl)
theorem fk_V_15 : Jvm.Cond.fieldLink "IndependenceRows$Walks" (15 : Nat) "IndependenceRows$Walks" "outOf" "[I" ∈ lw_tbl := am_tb 76 (by rfl)
theorem fk_V_18 : Jvm.Cond.fieldLink "IndependenceRows$Walks" (18 : Nat) "IndependenceRows$Walks" "given" "I" ∈ lw_tbl := am_tb 77 (by rfl)
theorem fk_V_22 : Jvm.Cond.fieldLink "IndependenceRows$Walks" (22 : Nat) "IndependenceRows$Walks" "meetable" "I" ∈ lw_tbl := am_tb 78 (by rfl)
theorem fk_V_25 : Jvm.Cond.fieldLink "IndependenceRows$Walks" (25 : Nat) "IndependenceRows$Walks" "nowAlong" "I" ∈ lw_tbl := am_tb 79 (by rfl)
theorem fk_V_28 : Jvm.Cond.fieldLink "IndependenceRows$Walks" (28 : Nat) "IndependenceRows$Walks" "nowAgainst" "I" ∈ lw_tbl := am_tb 80 (by rfl)
theorem fk_V_31 : Jvm.Cond.fieldLink "IndependenceRows$Walks" (31 : Nat) "IndependenceRows$Walks" "seenAlong" "I" ∈ lw_tbl := am_tb 81 (by rfl)
theorem fk_V_34 : Jvm.Cond.fieldLink "IndependenceRows$Walks" (34 : Nat) "IndependenceRows$Walks" "seenAgainst" "I" ∈ lw_tbl := am_tb 82 (by rfl)
theorem ck_X_37 : Jvm.Cond.classLink "IndependenceRows" (37 : Nat) "IndependenceRows$Kin" ∈ lw_tbl := am_tb 100 (by rfl)
theorem ins_K : Jvm.Cond.instantiable "IndependenceRows$Kin" (7 : Nat) ∈ lw_tbl := am_tb 101 (by rfl)
theorem lk_X_39 : Jvm.Cond.methodLinkNest "IndependenceRows" (39 : Nat) ({ cls := "IndependenceRows$Kin", name := "<init>", desc := "()V" } : Jvm.MethodName) "IndependenceRows" ∈ lw_tbl := am_tb 102 (by rfl)
theorem im_K_init : Jvm.Cond.instanceMethod ({ cls := "IndependenceRows$Kin", name := "<init>", desc := "()V" } : Jvm.MethodName) ∈ lw_tbl := am_tb 103 (by rfl)
theorem co_K_init : Jvm.Cond.code ({ cls := "IndependenceRows$Kin", name := "<init>", desc := "()V" } : Jvm.MethodName) prog_3_method_1_code (1 : Nat) (Option.none : Option Jvm.ClassFile.FieldType) ∈ lw_tbl := am_tb 104 (by rfl)
theorem lk_K_3 : Jvm.Cond.methodLink "IndependenceRows$Kin" (3 : Nat) ({ cls := "java/lang/Object", name := "<init>", desc := "()V" } : Jvm.MethodName) ∈ lw_tbl := am_tb 105 (by rfl)
theorem ck_K_9 : Jvm.Cond.classLink "IndependenceRows$Kin" (9 : Nat) "IndependenceRows$Graph" ∈ lw_tbl := am_tb 106 (by rfl)
theorem lk_K_11 : Jvm.Cond.methodLinkNest "IndependenceRows$Kin" (11 : Nat) ({ cls := "IndependenceRows$Graph", name := "<init>", desc := "()V" } : Jvm.MethodName) "IndependenceRows" ∈ lw_tbl := am_tb 107 (by rfl)
theorem fk_K_12 : Jvm.Cond.fieldLink "IndependenceRows$Kin" (12 : Nat) "IndependenceRows$Kin" "first" "LIndependenceRows$Graph;" ∈ lw_tbl := am_tb 108 (by rfl)
theorem fk_K_18 : Jvm.Cond.fieldLink "IndependenceRows$Kin" (18 : Nat) "IndependenceRows$Kin" "arcs" "I" ∈ lw_tbl := am_tb 109 (by rfl)
theorem fk_K_22 : Jvm.Cond.fieldLink "IndependenceRows$Kin" (22 : Nat) "IndependenceRows$Kin" "from" "[I" ∈ lw_tbl := am_tb 110 (by rfl)
theorem fk_K_26 : Jvm.Cond.fieldLink "IndependenceRows$Kin" (26 : Nat) "IndependenceRows$Kin" "to" "[I" ∈ lw_tbl := am_tb 111 (by rfl)
theorem fk_K_29 : Jvm.Cond.fieldLink "IndependenceRows$Kin" (29 : Nat) "IndependenceRows$Kin" "parents" "[I" ∈ lw_tbl := am_tb 112 (by rfl)
theorem fk_K_32 : Jvm.Cond.fieldLink "IndependenceRows$Kin" (32 : Nat) "IndependenceRows$Kin" "found" "I" ∈ lw_tbl := am_tb 113 (by rfl)
theorem fk_X_184 : Jvm.Cond.fieldLinkNest "IndependenceRows" (184 : Nat) "IndependenceRows$Kin" "found" "I" "IndependenceRows" ∈ lw_tbl := am_tb 114 (by rfl)
theorem fk_K_35 : Jvm.Cond.fieldLink "IndependenceRows$Kin" (35 : Nat) "IndependenceRows$Kin" "turned" "I" ∈ lw_tbl := am_tb 115 (by rfl)
theorem fk_X_187 : Jvm.Cond.fieldLinkNest "IndependenceRows" (187 : Nat) "IndependenceRows$Kin" "turned" "I" "IndependenceRows" ∈ lw_tbl := am_tb 116 (by rfl)
theorem ck_X_44 : Jvm.Cond.classLink "IndependenceRows" (44 : Nat) "IndependenceRows$Margin" ∈ lw_tbl := am_tb 132 (by rfl)
theorem ins_N : Jvm.Cond.instantiable "IndependenceRows$Margin" (2 : Nat) ∈ lw_tbl := am_tb 133 (by rfl)
theorem lk_X_46 : Jvm.Cond.methodLinkNest "IndependenceRows" (46 : Nat) ({ cls := "IndependenceRows$Margin", name := "<init>", desc := "()V" } : Jvm.MethodName) "IndependenceRows" ∈ lw_tbl := am_tb 134 (by rfl)
theorem im_N_init : Jvm.Cond.instanceMethod ({ cls := "IndependenceRows$Margin", name := "<init>", desc := "()V" } : Jvm.MethodName) ∈ lw_tbl := am_tb 135 (by rfl)
theorem co_N_init : Jvm.Cond.code ({ cls := "IndependenceRows$Margin", name := "<init>", desc := "()V" } : Jvm.MethodName) prog_4_method_1_code (1 : Nat) (Option.none : Option Jvm.ClassFile.FieldType) ∈ lw_tbl := am_tb 136 (by rfl)
theorem lk_N_3 : Jvm.Cond.methodLink "IndependenceRows$Margin" (3 : Nat) ({ cls := "java/lang/Object", name := "<init>", desc := "()V" } : Jvm.MethodName) ∈ lw_tbl := am_tb 137 (by rfl)
theorem fk_N_9 : Jvm.Cond.fieldLink "IndependenceRows$Margin" (9 : Nat) "IndependenceRows$Margin" "set" "I" ∈ lw_tbl := am_tb 138 (by rfl)
theorem fk_N_15 : Jvm.Cond.fieldLink "IndependenceRows$Margin" (15 : Nat) "IndependenceRows$Margin" "sums" "[J" ∈ lw_tbl := am_tb 139 (by rfl)
theorem arr_long : Jvm.Cond.arrayClass Jvm.ClassFile.FieldType.long ∈ lw_tbl := am_tb 145 (by rfl)
theorem fk_X_12 : Jvm.Cond.fieldLink "IndependenceRows" (12 : Nat) "IndependenceRows" "graph" "LIndependenceRows$Graph;" ∈ lw_tbl := am_tb 146 (by rfl)
theorem fk_X_16 : Jvm.Cond.fieldLink "IndependenceRows" (16 : Nat) "IndependenceRows" "kept" "LIndependenceRows$Graph;" ∈ lw_tbl := am_tb 147 (by rfl)
theorem fk_X_19 : Jvm.Cond.fieldLink "IndependenceRows" (19 : Nat) "IndependenceRows" "anyKept" "Z" ∈ lw_tbl := am_tb 148 (by rfl)
theorem fk_X_26 : Jvm.Cond.fieldLink "IndependenceRows" (26 : Nat) "IndependenceRows" "tables" "LIndependenceRows$Tables;" ∈ lw_tbl := am_tb 149 (by rfl)
theorem fk_X_33 : Jvm.Cond.fieldLink "IndependenceRows" (33 : Nat) "IndependenceRows" "walks" "LIndependenceRows$Walks;" ∈ lw_tbl := am_tb 150 (by rfl)
theorem fk_X_40 : Jvm.Cond.fieldLink "IndependenceRows" (40 : Nat) "IndependenceRows" "kin" "LIndependenceRows$Kin;" ∈ lw_tbl := am_tb 151 (by rfl)
theorem fk_X_47 : Jvm.Cond.fieldLink "IndependenceRows" (47 : Nat) "IndependenceRows" "ofAll" "LIndependenceRows$Margin;" ∈ lw_tbl := am_tb 152 (by rfl)
theorem fk_X_51 : Jvm.Cond.fieldLink "IndependenceRows" (51 : Nat) "IndependenceRows" "ofGiven" "LIndependenceRows$Margin;" ∈ lw_tbl := am_tb 153 (by rfl)
theorem fk_X_54 : Jvm.Cond.fieldLink "IndependenceRows" (54 : Nat) "IndependenceRows" "ofOne" "LIndependenceRows$Margin;" ∈ lw_tbl := am_tb 154 (by rfl)
theorem fk_X_57 : Jvm.Cond.fieldLink "IndependenceRows" (57 : Nat) "IndependenceRows" "ofOther" "LIndependenceRows$Margin;" ∈ lw_tbl := am_tb 155 (by rfl)
theorem lk_L_13 : Jvm.Cond.methodLink "IndependenceRowsLaw" (13 : Nat) ({ cls := "IndependenceRows", name := "clear", desc := "()I" } : Jvm.MethodName) ∈ lw_tbl := am_tb 177 (by rfl)
theorem im_X_clear : Jvm.Cond.instanceMethod ({ cls := "IndependenceRows", name := "clear", desc := "()I" } : Jvm.MethodName) ∈ lw_tbl := am_tb 178 (by rfl)
theorem se_X_clear : Jvm.Cond.selects "IndependenceRows" ({ cls := "IndependenceRows", name := "clear", desc := "()I" } : Jvm.MethodName) ({ cls := "IndependenceRows", name := "clear", desc := "()I" } : Jvm.MethodName) ∈ lw_tbl := am_tb 179 (by rfl)
theorem co_X_clear : Jvm.Cond.code ({ cls := "IndependenceRows", name := "clear", desc := "()I" } : Jvm.MethodName) prog_1_method_2_code (2 : Nat) (Option.some Jvm.ClassFile.FieldType.int) ∈ lw_tbl := am_tb 180 (by rfl)
theorem lk_X_64 : Jvm.Cond.methodLinkNest "IndependenceRows" (64 : Nat) ({ cls := "IndependenceRows$Graph", name := "empty", desc := "()V" } : Jvm.MethodName) "IndependenceRows" ∈ lw_tbl := am_tb 181 (by rfl)
theorem im_G_empty : Jvm.Cond.instanceMethod ({ cls := "IndependenceRows$Graph", name := "empty", desc := "()V" } : Jvm.MethodName) ∈ lw_tbl := am_tb 183 (by rfl)
theorem co_G_empty : Jvm.Cond.code ({ cls := "IndependenceRows$Graph", name := "empty", desc := "()V" } : Jvm.MethodName) prog_2_method_2_code (1 : Nat) (Option.none : Option Jvm.ClassFile.FieldType) ∈ lw_tbl := am_tb 184 (by rfl)
theorem lk_G_25 : Jvm.Cond.methodLink "IndependenceRows$Graph" (25 : Nat) ({ cls := "java/util/Arrays", name := "fill", desc := "([II)V" } : Jvm.MethodName) ∈ lw_tbl := am_tb 185 (by rfl)
theorem sm_A_fillI : Jvm.Cond.static ({ cls := "java/util/Arrays", name := "fill", desc := "([II)V" } : Jvm.MethodName) ∈ lw_tbl := am_tb 186 (by rfl)
theorem co_A_fillI : Jvm.Cond.code ({ cls := "java/util/Arrays", name := "fill", desc := "([II)V" } : Jvm.MethodName) prog_11_method_103_code (4 : Nat) (Option.none : Option Jvm.ClassFile.FieldType) ∈ lw_tbl := am_tb 187 (by rfl)
theorem lk_X_67 : Jvm.Cond.methodLinkNest "IndependenceRows" (67 : Nat) ({ cls := "IndependenceRows$Tables", name := "releaseAll", desc := "()V" } : Jvm.MethodName) "IndependenceRows" ∈ lw_tbl := am_tb 188 (by rfl)
theorem im_T_releaseAll : Jvm.Cond.instanceMethod ({ cls := "IndependenceRows$Tables", name := "releaseAll", desc := "()V" } : Jvm.MethodName) ∈ lw_tbl := am_tb 190 (by rfl)
theorem co_T_releaseAll : Jvm.Cond.code ({ cls := "IndependenceRows$Tables", name := "releaseAll", desc := "()V" } : Jvm.MethodName) prog_5_method_3_code (1 : Nat) (Option.none : Option Jvm.ClassFile.FieldType) ∈ lw_tbl := am_tb 191 (by rfl)
theorem lk_L_18 : Jvm.Cond.methodLink "IndependenceRowsLaw" (18 : Nat) ({ cls := "IndependenceRows", name := "place", desc := "()I" } : Jvm.MethodName) ∈ lw_tbl := am_tb 192 (by rfl)
theorem im_X_place : Jvm.Cond.instanceMethod ({ cls := "IndependenceRows", name := "place", desc := "()I" } : Jvm.MethodName) ∈ lw_tbl := am_tb 193 (by rfl)
theorem se_X_place : Jvm.Cond.selects "IndependenceRows" ({ cls := "IndependenceRows", name := "place", desc := "()I" } : Jvm.MethodName) ({ cls := "IndependenceRows", name := "place", desc := "()I" } : Jvm.MethodName) ∈ lw_tbl := am_tb 194 (by rfl)
theorem co_X_place : Jvm.Cond.code ({ cls := "IndependenceRows", name := "place", desc := "()I" } : Jvm.MethodName) prog_1_method_3_code (2 : Nat) (Option.some Jvm.ClassFile.FieldType.int) ∈ lw_tbl := am_tb 195 (by rfl)
theorem lk_X_70 : Jvm.Cond.methodLinkNest "IndependenceRows" (70 : Nat) ({ cls := "IndependenceRows$Tables", name := "startRows", desc := "(I)V" } : Jvm.MethodName) "IndependenceRows" ∈ lw_tbl := am_tb 196 (by rfl)
theorem im_T_startRows : Jvm.Cond.instanceMethod ({ cls := "IndependenceRows$Tables", name := "startRows", desc := "(I)V" } : Jvm.MethodName) ∈ lw_tbl := am_tb 198 (by rfl)
theorem co_T_startRows : Jvm.Cond.code ({ cls := "IndependenceRows$Tables", name := "startRows", desc := "(I)V" } : Jvm.MethodName) prog_5_method_2_code (2 : Nat) (Option.none : Option Jvm.ClassFile.FieldType) ∈ lw_tbl := am_tb 199 (by rfl)
theorem lk_T_23 : Jvm.Cond.methodLink "IndependenceRows$Tables" (23 : Nat) ({ cls := "java/util/Arrays", name := "fill", desc := "([II)V" } : Jvm.MethodName) ∈ lw_tbl := am_tb 200 (by rfl)
theorem lk_L_22 : Jvm.Cond.methodLink "IndependenceRowsLaw" (22 : Nat) ({ cls := "IndependenceRows", name := "arc", desc := "(II)I" } : Jvm.MethodName) ∈ lw_tbl := am_tb 201 (by rfl)
theorem im_X_arc : Jvm.Cond.instanceMethod ({ cls := "IndependenceRows", name := "arc", desc := "(II)I" } : Jvm.MethodName) ∈ lw_tbl := am_tb 202 (by rfl)
theorem se_X_arc : Jvm.Cond.selects "IndependenceRows" ({ cls := "IndependenceRows", name := "arc", desc := "(II)I" } : Jvm.MethodName) ({ cls := "IndependenceRows", name := "arc", desc := "(II)I" } : Jvm.MethodName) ∈ lw_tbl := am_tb 203 (by rfl)
theorem co_X_arc : Jvm.Cond.code ({ cls := "IndependenceRows", name := "arc", desc := "(II)I" } : Jvm.MethodName) prog_1_method_4_code (3 : Nat) (Option.some Jvm.ClassFile.FieldType.int) ∈ lw_tbl := am_tb 204 (by rfl)
theorem lk_X_74 : Jvm.Cond.methodLink "IndependenceRows" (74 : Nat) ({ cls := "IndependenceRows", name := "isPair", desc := "(II)Z" } : Jvm.MethodName) ∈ lw_tbl := am_tb 205 (by rfl)
theorem im_X_isPair : Jvm.Cond.instanceMethod ({ cls := "IndependenceRows", name := "isPair", desc := "(II)Z" } : Jvm.MethodName) ∈ lw_tbl := am_tb 207 (by rfl)
theorem co_X_isPair : Jvm.Cond.code ({ cls := "IndependenceRows", name := "isPair", desc := "(II)Z" } : Jvm.MethodName) prog_1_method_24_code (3 : Nat) (Option.some Jvm.ClassFile.FieldType.boolean) ∈ lw_tbl := am_tb 208 (by rfl)
theorem lk_X_113 : Jvm.Cond.methodLink "IndependenceRows" (113 : Nat) ({ cls := "IndependenceRows", name := "isPlace", desc := "(I)Z" } : Jvm.MethodName) ∈ lw_tbl := am_tb 209 (by rfl)
theorem im_X_isPlace : Jvm.Cond.instanceMethod ({ cls := "IndependenceRows", name := "isPlace", desc := "(I)Z" } : Jvm.MethodName) ∈ lw_tbl := am_tb 211 (by rfl)
theorem co_X_isPlace : Jvm.Cond.code ({ cls := "IndependenceRows", name := "isPlace", desc := "(I)Z" } : Jvm.MethodName) prog_1_method_23_code (2 : Nat) (Option.some Jvm.ClassFile.FieldType.boolean) ∈ lw_tbl := am_tb 212 (by rfl)
theorem lk_X_78 : Jvm.Cond.methodLinkNest "IndependenceRows" (78 : Nat) ({ cls := "IndependenceRows$Graph", name := "neighbours", desc := "(I)I" } : Jvm.MethodName) "IndependenceRows" ∈ lw_tbl := am_tb 213 (by rfl)
theorem im_G_neighbours : Jvm.Cond.instanceMethod ({ cls := "IndependenceRows$Graph", name := "neighbours", desc := "(I)I" } : Jvm.MethodName) ∈ lw_tbl := am_tb 215 (by rfl)
theorem co_G_neighbours : Jvm.Cond.code ({ cls := "IndependenceRows$Graph", name := "neighbours", desc := "(I)I" } : Jvm.MethodName) prog_2_method_7_code (2 : Nat) (Option.some Jvm.ClassFile.FieldType.int) ∈ lw_tbl := am_tb 216 (by rfl)
theorem lk_X_82 : Jvm.Cond.methodLink "IndependenceRows" (82 : Nat) ({ cls := "IndependenceRows", name := "has", desc := "(II)Z" } : Jvm.MethodName) ∈ lw_tbl := am_tb 217 (by rfl)
theorem sm_X_has : Jvm.Cond.static ({ cls := "IndependenceRows", name := "has", desc := "(II)Z" } : Jvm.MethodName) ∈ lw_tbl := am_tb 218 (by rfl)
theorem co_X_has : Jvm.Cond.code ({ cls := "IndependenceRows", name := "has", desc := "(II)Z" } : Jvm.MethodName) prog_1_method_32_code (2 : Nat) (Option.some Jvm.ClassFile.FieldType.boolean) ∈ lw_tbl := am_tb 219 (by rfl)
theorem lk_X_89 : Jvm.Cond.methodLink "IndependenceRows" (89 : Nat) ({ cls := "IndependenceRows", name := "bit", desc := "(I)I" } : Jvm.MethodName) ∈ lw_tbl := am_tb 220 (by rfl)
theorem sm_X_bit : Jvm.Cond.static ({ cls := "IndependenceRows", name := "bit", desc := "(I)I" } : Jvm.MethodName) ∈ lw_tbl := am_tb 221 (by rfl)
theorem co_X_bit : Jvm.Cond.code ({ cls := "IndependenceRows", name := "bit", desc := "(I)I" } : Jvm.MethodName) prog_1_method_31_code (1 : Nat) (Option.some Jvm.ClassFile.FieldType.int) ∈ lw_tbl := am_tb 222 (by rfl)
theorem lk_X_92 : Jvm.Cond.methodLink "IndependenceRows" (92 : Nat) ({ cls := "IndependenceRows", name := "closure", desc := "([II)I" } : Jvm.MethodName) ∈ lw_tbl := am_tb 223 (by rfl)
theorem sm_X_closure : Jvm.Cond.static ({ cls := "IndependenceRows", name := "closure", desc := "([II)I" } : Jvm.MethodName) ∈ lw_tbl := am_tb 224 (by rfl)
theorem co_X_closure : Jvm.Cond.code ({ cls := "IndependenceRows", name := "closure", desc := "([II)I" } : Jvm.MethodName) prog_1_method_34_code (5 : Nat) (Option.some Jvm.ClassFile.FieldType.int) ∈ lw_tbl := am_tb 225 (by rfl)
theorem lk_X_210 : Jvm.Cond.methodLink "IndependenceRows" (210 : Nat) ({ cls := "IndependenceRows", name := "union", desc := "([II)I" } : Jvm.MethodName) ∈ lw_tbl := am_tb 226 (by rfl)
theorem sm_X_union : Jvm.Cond.static ({ cls := "IndependenceRows", name := "union", desc := "([II)I" } : Jvm.MethodName) ∈ lw_tbl := am_tb 227 (by rfl)
theorem co_X_union : Jvm.Cond.code ({ cls := "IndependenceRows", name := "union", desc := "([II)I" } : Jvm.MethodName) prog_1_method_33_code (4 : Nat) (Option.some Jvm.ClassFile.FieldType.int) ∈ lw_tbl := am_tb 228 (by rfl)
theorem lk_X_99 : Jvm.Cond.methodLinkNest "IndependenceRows" (99 : Nat) ({ cls := "IndependenceRows$Graph", name := "join", desc := "(II)V" } : Jvm.MethodName) "IndependenceRows" ∈ lw_tbl := am_tb 229 (by rfl)
theorem im_G_join : Jvm.Cond.instanceMethod ({ cls := "IndependenceRows$Graph", name := "join", desc := "(II)V" } : Jvm.MethodName) ∈ lw_tbl := am_tb 231 (by rfl)
theorem co_G_join : Jvm.Cond.code ({ cls := "IndependenceRows$Graph", name := "join", desc := "(II)V" } : Jvm.MethodName) prog_2_method_4_code (3 : Nat) (Option.none : Option Jvm.ClassFile.FieldType) ∈ lw_tbl := am_tb 232 (by rfl)
theorem lk_G_37 : Jvm.Cond.methodLinkNest "IndependenceRows$Graph" (37 : Nat) ({ cls := "IndependenceRows", name := "bit", desc := "(I)I" } : Jvm.MethodName) "IndependenceRows" ∈ lw_tbl := am_tb 233 (by rfl)
theorem lk_L_27 : Jvm.Cond.methodLink "IndependenceRowsLaw" (27 : Nat) ({ cls := "IndependenceRows", name := "cut", desc := "(II)I" } : Jvm.MethodName) ∈ lw_tbl := am_tb 234 (by rfl)
theorem im_X_cut : Jvm.Cond.instanceMethod ({ cls := "IndependenceRows", name := "cut", desc := "(II)I" } : Jvm.MethodName) ∈ lw_tbl := am_tb 235 (by rfl)
theorem se_X_cut : Jvm.Cond.selects "IndependenceRows" ({ cls := "IndependenceRows", name := "cut", desc := "(II)I" } : Jvm.MethodName) ({ cls := "IndependenceRows", name := "cut", desc := "(II)I" } : Jvm.MethodName) ∈ lw_tbl := am_tb 236 (by rfl)
theorem co_X_cut : Jvm.Cond.code ({ cls := "IndependenceRows", name := "cut", desc := "(II)I" } : Jvm.MethodName) prog_1_method_5_code (3 : Nat) (Option.some Jvm.ClassFile.FieldType.int) ∈ lw_tbl := am_tb 237 (by rfl)
theorem lk_X_103 : Jvm.Cond.methodLinkNest "IndependenceRows" (103 : Nat) ({ cls := "IndependenceRows$Graph", name := "part", desc := "(II)V" } : Jvm.MethodName) "IndependenceRows" ∈ lw_tbl := am_tb 238 (by rfl)
theorem im_G_part : Jvm.Cond.instanceMethod ({ cls := "IndependenceRows$Graph", name := "part", desc := "(II)V" } : Jvm.MethodName) ∈ lw_tbl := am_tb 240 (by rfl)
theorem co_G_part : Jvm.Cond.code ({ cls := "IndependenceRows$Graph", name := "part", desc := "(II)V" } : Jvm.MethodName) prog_2_method_5_code (3 : Nat) (Option.none : Option Jvm.ClassFile.FieldType) ∈ lw_tbl := am_tb 241 (by rfl)
theorem lk_L_31 : Jvm.Cond.methodLink "IndependenceRowsLaw" (31 : Nat) ({ cls := "IndependenceRows", name := "odds", desc := "(III)I" } : Jvm.MethodName) ∈ lw_tbl := am_tb 242 (by rfl)
theorem im_X_odds : Jvm.Cond.instanceMethod ({ cls := "IndependenceRows", name := "odds", desc := "(III)I" } : Jvm.MethodName) ∈ lw_tbl := am_tb 243 (by rfl)
theorem se_X_odds : Jvm.Cond.selects "IndependenceRows" ({ cls := "IndependenceRows", name := "odds", desc := "(III)I" } : Jvm.MethodName) ({ cls := "IndependenceRows", name := "odds", desc := "(III)I" } : Jvm.MethodName) ∈ lw_tbl := am_tb 244 (by rfl)
theorem co_X_odds : Jvm.Cond.code ({ cls := "IndependenceRows", name := "odds", desc := "(III)I" } : Jvm.MethodName) prog_1_method_6_code (5 : Nat) (Option.some Jvm.ClassFile.FieldType.int) ∈ lw_tbl := am_tb 245 (by rfl)
theorem lk_X_106 : Jvm.Cond.methodLink "IndependenceRows" (106 : Nat) ({ cls := "IndependenceRows", name := "isRow", desc := "(II)Z" } : Jvm.MethodName) ∈ lw_tbl := am_tb 246 (by rfl)
theorem im_X_isRow : Jvm.Cond.instanceMethod ({ cls := "IndependenceRows", name := "isRow", desc := "(II)Z" } : Jvm.MethodName) ∈ lw_tbl := am_tb 248 (by rfl)
theorem co_X_isRow : Jvm.Cond.code ({ cls := "IndependenceRows", name := "isRow", desc := "(II)Z" } : Jvm.MethodName) prog_1_method_27_code (3 : Nat) (Option.some Jvm.ClassFile.FieldType.boolean) ∈ lw_tbl := am_tb 249 (by rfl)
theorem lk_X_136 : Jvm.Cond.methodLinkNest "IndependenceRows" (136 : Nat) ({ cls := "IndependenceRows$Graph", name := "rows", desc := "(I)I" } : Jvm.MethodName) "IndependenceRows" ∈ lw_tbl := am_tb 250 (by rfl)
theorem im_G_rows : Jvm.Cond.instanceMethod ({ cls := "IndependenceRows$Graph", name := "rows", desc := "(I)I" } : Jvm.MethodName) ∈ lw_tbl := am_tb 252 (by rfl)
theorem co_G_rows : Jvm.Cond.code ({ cls := "IndependenceRows$Graph", name := "rows", desc := "(I)I" } : Jvm.MethodName) prog_2_method_8_code (2 : Nat) (Option.some Jvm.ClassFile.FieldType.int) ∈ lw_tbl := am_tb 253 (by rfl)
theorem lk_G_41 : Jvm.Cond.methodLink "IndependenceRows$Graph" (41 : Nat) ({ cls := "java/lang/Integer", name := "bitCount", desc := "(I)I" } : Jvm.MethodName) ∈ lw_tbl := am_tb 254 (by rfl)
theorem sm_I_bitCount : Jvm.Cond.static ({ cls := "java/lang/Integer", name := "bitCount", desc := "(I)I" } : Jvm.MethodName) ∈ lw_tbl := am_tb 255 (by rfl)
theorem co_I_bitCount : Jvm.Cond.code ({ cls := "java/lang/Integer", name := "bitCount", desc := "(I)I" } : Jvm.MethodName) prog_9_method_49_code (1 : Nat) (Option.some Jvm.ClassFile.FieldType.int) ∈ lw_tbl := am_tb 256 (by rfl)
theorem kk_I_265 : Jvm.Cond.constant "java/lang/Integer" (265 : Nat) (1431655765 : Int32) ∈ lw_tbl := am_tb 257 (by rfl)
theorem kk_I_266 : Jvm.Cond.constant "java/lang/Integer" (266 : Nat) (858993459 : Int32) ∈ lw_tbl := am_tb 258 (by rfl)
theorem kk_I_267 : Jvm.Cond.constant "java/lang/Integer" (267 : Nat) (252645135 : Int32) ∈ lw_tbl := am_tb 259 (by rfl)
theorem lk_L_36 : Jvm.Cond.methodLink "IndependenceRowsLaw" (36 : Nat) ({ cls := "IndependenceRows", name := "hold", desc := "(II)I" } : Jvm.MethodName) ∈ lw_tbl := am_tb 260 (by rfl)
theorem im_X_hold : Jvm.Cond.instanceMethod ({ cls := "IndependenceRows", name := "hold", desc := "(II)I" } : Jvm.MethodName) ∈ lw_tbl := am_tb 261 (by rfl)
theorem se_X_hold : Jvm.Cond.selects "IndependenceRows" ({ cls := "IndependenceRows", name := "hold", desc := "(II)I" } : Jvm.MethodName) ({ cls := "IndependenceRows", name := "hold", desc := "(II)I" } : Jvm.MethodName) ∈ lw_tbl := am_tb 262 (by rfl)
theorem co_X_hold : Jvm.Cond.code ({ cls := "IndependenceRows", name := "hold", desc := "(II)I" } : Jvm.MethodName) prog_1_method_7_code (4 : Nat) (Option.some Jvm.ClassFile.FieldType.int) ∈ lw_tbl := am_tb 263 (by rfl)
theorem lk_X_117 : Jvm.Cond.methodLinkNest "IndependenceRows" (117 : Nat) ({ cls := "IndependenceRows$Tables", name := "heldAt", desc := "(I)I" } : Jvm.MethodName) "IndependenceRows" ∈ lw_tbl := am_tb 264 (by rfl)
theorem im_T_heldAt : Jvm.Cond.instanceMethod ({ cls := "IndependenceRows$Tables", name := "heldAt", desc := "(I)I" } : Jvm.MethodName) ∈ lw_tbl := am_tb 266 (by rfl)
theorem co_T_heldAt : Jvm.Cond.code ({ cls := "IndependenceRows$Tables", name := "heldAt", desc := "(I)I" } : Jvm.MethodName) prog_5_method_5_code (2 : Nat) (Option.some Jvm.ClassFile.FieldType.int) ∈ lw_tbl := am_tb 267 (by rfl)
theorem lk_T_33 : Jvm.Cond.methodLinkNest "IndependenceRows$Tables" (33 : Nat) ({ cls := "IndependenceRows", name := "has", desc := "(II)Z" } : Jvm.MethodName) "IndependenceRows" ∈ lw_tbl := am_tb 268 (by rfl)
theorem lk_X_120 : Jvm.Cond.methodLinkNest "IndependenceRows" (120 : Nat) ({ cls := "IndependenceRows$Tables", name := "setHeld", desc := "(II)V" } : Jvm.MethodName) "IndependenceRows" ∈ lw_tbl := am_tb 269 (by rfl)
theorem im_T_setHeld : Jvm.Cond.instanceMethod ({ cls := "IndependenceRows$Tables", name := "setHeld", desc := "(II)V" } : Jvm.MethodName) ∈ lw_tbl := am_tb 271 (by rfl)
theorem co_T_setHeld : Jvm.Cond.code ({ cls := "IndependenceRows$Tables", name := "setHeld", desc := "(II)V" } : Jvm.MethodName) prog_5_method_4_code (3 : Nat) (Option.none : Option Jvm.ClassFile.FieldType) ∈ lw_tbl := am_tb 272 (by rfl)
theorem lk_T_29 : Jvm.Cond.methodLinkNest "IndependenceRows$Tables" (29 : Nat) ({ cls := "IndependenceRows", name := "bit", desc := "(I)I" } : Jvm.MethodName) "IndependenceRows" ∈ lw_tbl := am_tb 273 (by rfl)
theorem lk_L_40 : Jvm.Cond.methodLink "IndependenceRowsLaw" (40 : Nat) ({ cls := "IndependenceRows", name := "told", desc := "(II)I" } : Jvm.MethodName) ∈ lw_tbl := am_tb 274 (by rfl)
theorem im_X_told : Jvm.Cond.instanceMethod ({ cls := "IndependenceRows", name := "told", desc := "(II)I" } : Jvm.MethodName) ∈ lw_tbl := am_tb 275 (by rfl)
theorem se_X_told : Jvm.Cond.selects "IndependenceRows" ({ cls := "IndependenceRows", name := "told", desc := "(II)I" } : Jvm.MethodName) ({ cls := "IndependenceRows", name := "told", desc := "(II)I" } : Jvm.MethodName) ∈ lw_tbl := am_tb 276 (by rfl)
theorem co_X_told : Jvm.Cond.code ({ cls := "IndependenceRows", name := "told", desc := "(II)I" } : Jvm.MethodName) prog_1_method_8_code (3 : Nat) (Option.some Jvm.ClassFile.FieldType.int) ∈ lw_tbl := am_tb 277 (by rfl)
theorem lk_L_44 : Jvm.Cond.methodLink "IndependenceRowsLaw" (44 : Nat) ({ cls := "IndependenceRows", name := "of", desc := "(II)I" } : Jvm.MethodName) ∈ lw_tbl := am_tb 278 (by rfl)
theorem im_X_of : Jvm.Cond.instanceMethod ({ cls := "IndependenceRows", name := "of", desc := "(II)I" } : Jvm.MethodName) ∈ lw_tbl := am_tb 279 (by rfl)
theorem se_X_of : Jvm.Cond.selects "IndependenceRows" ({ cls := "IndependenceRows", name := "of", desc := "(II)I" } : Jvm.MethodName) ({ cls := "IndependenceRows", name := "of", desc := "(II)I" } : Jvm.MethodName) ∈ lw_tbl := am_tb 280 (by rfl)
theorem co_X_of : Jvm.Cond.code ({ cls := "IndependenceRows", name := "of", desc := "(II)I" } : Jvm.MethodName) prog_1_method_9_code (3 : Nat) (Option.some Jvm.ClassFile.FieldType.int) ∈ lw_tbl := am_tb 281 (by rfl)
theorem lk_X_129 : Jvm.Cond.methodLinkNest "IndependenceRows" (129 : Nat) ({ cls := "IndependenceRows$Walks", name := "lookAt", desc := "(LIndependenceRows$Graph;II)V" } : Jvm.MethodName) "IndependenceRows" ∈ lw_tbl := am_tb 282 (by rfl)
theorem im_V_lookAt : Jvm.Cond.instanceMethod ({ cls := "IndependenceRows$Walks", name := "lookAt", desc := "(LIndependenceRows$Graph;II)V" } : Jvm.MethodName) ∈ lw_tbl := am_tb 284 (by rfl)
theorem co_V_lookAt : Jvm.Cond.code ({ cls := "IndependenceRows$Walks", name := "lookAt", desc := "(LIndependenceRows$Graph;II)V" } : Jvm.MethodName) prog_6_method_2_code (5 : Nat) (Option.none : Option Jvm.ClassFile.FieldType) ∈ lw_tbl := am_tb 285 (by rfl)
theorem lk_V_37 : Jvm.Cond.methodLinkNest "IndependenceRows$Walks" (37 : Nat) ({ cls := "IndependenceRows", name := "has", desc := "(II)Z" } : Jvm.MethodName) "IndependenceRows" ∈ lw_tbl := am_tb 286 (by rfl)
theorem lk_X_133 : Jvm.Cond.methodLinkNest "IndependenceRows" (133 : Nat) ({ cls := "IndependenceRows$Walks", name := "below", desc := "(I)I" } : Jvm.MethodName) "IndependenceRows" ∈ lw_tbl := am_tb 287 (by rfl)
theorem im_V_below : Jvm.Cond.instanceMethod ({ cls := "IndependenceRows$Walks", name := "below", desc := "(I)I" } : Jvm.MethodName) ∈ lw_tbl := am_tb 289 (by rfl)
theorem co_V_below : Jvm.Cond.code ({ cls := "IndependenceRows$Walks", name := "below", desc := "(I)I" } : Jvm.MethodName) prog_6_method_3_code (2 : Nat) (Option.some Jvm.ClassFile.FieldType.int) ∈ lw_tbl := am_tb 290 (by rfl)
theorem lk_V_49 : Jvm.Cond.methodLinkNest "IndependenceRows$Walks" (49 : Nat) ({ cls := "IndependenceRows", name := "closure", desc := "([II)I" } : Jvm.MethodName) "IndependenceRows" ∈ lw_tbl := am_tb 291 (by rfl)
theorem lk_L_48 : Jvm.Cond.methodLink "IndependenceRowsLaw" (48 : Nat) ({ cls := "IndependenceRows", name := "separated", desc := "(III)I" } : Jvm.MethodName) ∈ lw_tbl := am_tb 292 (by rfl)
theorem im_X_separated : Jvm.Cond.instanceMethod ({ cls := "IndependenceRows", name := "separated", desc := "(III)I" } : Jvm.MethodName) ∈ lw_tbl := am_tb 293 (by rfl)
theorem se_X_separated : Jvm.Cond.selects "IndependenceRows" ({ cls := "IndependenceRows", name := "separated", desc := "(III)I" } : Jvm.MethodName) ({ cls := "IndependenceRows", name := "separated", desc := "(III)I" } : Jvm.MethodName) ∈ lw_tbl := am_tb 294 (by rfl)
theorem co_X_separated : Jvm.Cond.code ({ cls := "IndependenceRows", name := "separated", desc := "(III)I" } : Jvm.MethodName) prog_1_method_10_code (4 : Nat) (Option.some Jvm.ClassFile.FieldType.int) ∈ lw_tbl := am_tb 295 (by rfl)
theorem lk_X_139 : Jvm.Cond.methodLink "IndependenceRows" (139 : Nat) ({ cls := "IndependenceRows", name := "isQuestion", desc := "(III)Z" } : Jvm.MethodName) ∈ lw_tbl := am_tb 296 (by rfl)
theorem im_X_isQuestion : Jvm.Cond.instanceMethod ({ cls := "IndependenceRows", name := "isQuestion", desc := "(III)Z" } : Jvm.MethodName) ∈ lw_tbl := am_tb 298 (by rfl)
theorem co_X_isQuestion : Jvm.Cond.code ({ cls := "IndependenceRows", name := "isQuestion", desc := "(III)Z" } : Jvm.MethodName) prog_1_method_26_code (4 : Nat) (Option.some Jvm.ClassFile.FieldType.boolean) ∈ lw_tbl := am_tb 299 (by rfl)
theorem lk_X_151 : Jvm.Cond.methodLink "IndependenceRows" (151 : Nat) ({ cls := "IndependenceRows", name := "isSet", desc := "(I)Z" } : Jvm.MethodName) ∈ lw_tbl := am_tb 300 (by rfl)
theorem im_X_isSet : Jvm.Cond.instanceMethod ({ cls := "IndependenceRows", name := "isSet", desc := "(I)Z" } : Jvm.MethodName) ∈ lw_tbl := am_tb 302 (by rfl)
theorem co_X_isSet : Jvm.Cond.code ({ cls := "IndependenceRows", name := "isSet", desc := "(I)Z" } : Jvm.MethodName) prog_1_method_25_code (2 : Nat) (Option.some Jvm.ClassFile.FieldType.boolean) ∈ lw_tbl := am_tb 303 (by rfl)
theorem lk_X_156 : Jvm.Cond.methodLinkNest "IndependenceRows" (156 : Nat) ({ cls := "IndependenceRows$Graph", name := "everyPlace", desc := "()I" } : Jvm.MethodName) "IndependenceRows" ∈ lw_tbl := am_tb 304 (by rfl)
theorem im_G_everyPlace : Jvm.Cond.instanceMethod ({ cls := "IndependenceRows$Graph", name := "everyPlace", desc := "()I" } : Jvm.MethodName) ∈ lw_tbl := am_tb 306 (by rfl)
theorem co_G_everyPlace : Jvm.Cond.code ({ cls := "IndependenceRows$Graph", name := "everyPlace", desc := "()I" } : Jvm.MethodName) prog_2_method_6_code (1 : Nat) (Option.some Jvm.ClassFile.FieldType.int) ∈ lw_tbl := am_tb 307 (by rfl)
theorem lk_X_143 : Jvm.Cond.methodLinkNest "IndependenceRows" (143 : Nat) ({ cls := "IndependenceRows$Walks", name := "shortest", desc := "(III)I" } : Jvm.MethodName) "IndependenceRows" ∈ lw_tbl := am_tb 308 (by rfl)
theorem im_V_shortest : Jvm.Cond.instanceMethod ({ cls := "IndependenceRows$Walks", name := "shortest", desc := "(III)I" } : Jvm.MethodName) ∈ lw_tbl := am_tb 310 (by rfl)
theorem co_V_shortest : Jvm.Cond.code ({ cls := "IndependenceRows$Walks", name := "shortest", desc := "(III)I" } : Jvm.MethodName) prog_6_method_4_code (5 : Nat) (Option.some Jvm.ClassFile.FieldType.int) ∈ lw_tbl := am_tb 311 (by rfl)
theorem lk_V_53 : Jvm.Cond.methodLink "IndependenceRows$Walks" (53 : Nat) ({ cls := "IndependenceRows$Walks", name := "start", desc := "(II)V" } : Jvm.MethodName) ∈ lw_tbl := am_tb 312 (by rfl)
theorem im_V_start : Jvm.Cond.instanceMethod ({ cls := "IndependenceRows$Walks", name := "start", desc := "(II)V" } : Jvm.MethodName) ∈ lw_tbl := am_tb 314 (by rfl)
theorem co_V_start : Jvm.Cond.code ({ cls := "IndependenceRows$Walks", name := "start", desc := "(II)V" } : Jvm.MethodName) prog_6_method_6_code (3 : Nat) (Option.none : Option Jvm.ClassFile.FieldType) ∈ lw_tbl := am_tb 315 (by rfl)
theorem lk_V_57 : Jvm.Cond.methodLink "IndependenceRows$Walks" (57 : Nat) ({ cls := "IndependenceRows$Walks", name := "step", desc := "()V" } : Jvm.MethodName) ∈ lw_tbl := am_tb 316 (by rfl)
theorem im_V_step : Jvm.Cond.instanceMethod ({ cls := "IndependenceRows$Walks", name := "step", desc := "()V" } : Jvm.MethodName) ∈ lw_tbl := am_tb 318 (by rfl)
theorem co_V_step : Jvm.Cond.code ({ cls := "IndependenceRows$Walks", name := "step", desc := "()V" } : Jvm.MethodName) prog_6_method_7_code (4 : Nat) (Option.none : Option Jvm.ClassFile.FieldType) ∈ lw_tbl := am_tb 319 (by rfl)
theorem lk_V_60 : Jvm.Cond.methodLinkNest "IndependenceRows$Walks" (60 : Nat) ({ cls := "IndependenceRows", name := "union", desc := "([II)I" } : Jvm.MethodName) "IndependenceRows" ∈ lw_tbl := am_tb 320 (by rfl)
theorem lk_X_147 : Jvm.Cond.methodLink "IndependenceRows" (147 : Nat) ({ cls := "IndependenceRows", name := "answer", desc := "(Z)I" } : Jvm.MethodName) ∈ lw_tbl := am_tb 321 (by rfl)
theorem sm_X_answer : Jvm.Cond.static ({ cls := "IndependenceRows", name := "answer", desc := "(Z)I" } : Jvm.MethodName) ∈ lw_tbl := am_tb 322 (by rfl)
theorem co_X_answer : Jvm.Cond.code ({ cls := "IndependenceRows", name := "answer", desc := "(Z)I" } : Jvm.MethodName) prog_1_method_30_code (1 : Nat) (Option.some Jvm.ClassFile.FieldType.int) ∈ lw_tbl := am_tb 323 (by rfl)
theorem lk_L_52 : Jvm.Cond.methodLink "IndependenceRowsLaw" (52 : Nat) ({ cls := "IndependenceRows", name := "walk", desc := "(III)I" } : Jvm.MethodName) ∈ lw_tbl := am_tb 324 (by rfl)
theorem im_X_walk : Jvm.Cond.instanceMethod ({ cls := "IndependenceRows", name := "walk", desc := "(III)I" } : Jvm.MethodName) ∈ lw_tbl := am_tb 325 (by rfl)
theorem se_X_walk : Jvm.Cond.selects "IndependenceRows" ({ cls := "IndependenceRows", name := "walk", desc := "(III)I" } : Jvm.MethodName) ({ cls := "IndependenceRows", name := "walk", desc := "(III)I" } : Jvm.MethodName) ∈ lw_tbl := am_tb 326 (by rfl)
theorem co_X_walk : Jvm.Cond.code ({ cls := "IndependenceRows", name := "walk", desc := "(III)I" } : Jvm.MethodName) prog_1_method_11_code (4 : Nat) (Option.some Jvm.ClassFile.FieldType.int) ∈ lw_tbl := am_tb 327 (by rfl)
theorem lk_L_56 : Jvm.Cond.methodLink "IndependenceRowsLaw" (56 : Nat) ({ cls := "IndependenceRows", name := "weight", desc := "(II)J" } : Jvm.MethodName) ∈ lw_tbl := am_tb 328 (by rfl)
theorem im_X_weight : Jvm.Cond.instanceMethod ({ cls := "IndependenceRows", name := "weight", desc := "(II)J" } : Jvm.MethodName) ∈ lw_tbl := am_tb 329 (by rfl)
theorem se_X_weight : Jvm.Cond.selects "IndependenceRows" ({ cls := "IndependenceRows", name := "weight", desc := "(II)J" } : Jvm.MethodName) ({ cls := "IndependenceRows", name := "weight", desc := "(II)J" } : Jvm.MethodName) ∈ lw_tbl := am_tb 330 (by rfl)
theorem co_X_weight : Jvm.Cond.code ({ cls := "IndependenceRows", name := "weight", desc := "(II)J" } : Jvm.MethodName) prog_1_method_12_code (7 : Nat) (Option.some Jvm.ClassFile.FieldType.long) ∈ lw_tbl := am_tb 331 (by rfl)
theorem kk_X_154 : Jvm.Cond.constantLong "IndependenceRows" (154 : Nat) (-2 : Int64) ∈ lw_tbl := am_tb 332 (by rfl)
theorem lk_X_160 : Jvm.Cond.methodLinkNest "IndependenceRows" (160 : Nat) ({ cls := "IndependenceRows$Tables", name := "product", desc := "(LIndependenceRows$Graph;I)J" } : Jvm.MethodName) "IndependenceRows" ∈ lw_tbl := am_tb 333 (by rfl)
theorem im_T_product : Jvm.Cond.instanceMethod ({ cls := "IndependenceRows$Tables", name := "product", desc := "(LIndependenceRows$Graph;I)J" } : Jvm.MethodName) ∈ lw_tbl := am_tb 335 (by rfl)
theorem co_T_product : Jvm.Cond.code ({ cls := "IndependenceRows$Tables", name := "product", desc := "(LIndependenceRows$Graph;I)J" } : Jvm.MethodName) prog_5_method_6_code (6 : Nat) (Option.some Jvm.ClassFile.FieldType.long) ∈ lw_tbl := am_tb 336 (by rfl)
theorem kk_T_42 : Jvm.Cond.constantLong "IndependenceRows$Tables" (42 : Nat) (8 : Int64) ∈ lw_tbl := am_tb 337 (by rfl)
theorem lk_T_44 : Jvm.Cond.methodLink "IndependenceRows$Tables" (44 : Nat) ({ cls := "IndependenceRows$Tables", name := "factor", desc := "(LIndependenceRows$Graph;II)I" } : Jvm.MethodName) ∈ lw_tbl := am_tb 338 (by rfl)
theorem im_T_factor : Jvm.Cond.instanceMethod ({ cls := "IndependenceRows$Tables", name := "factor", desc := "(LIndependenceRows$Graph;II)I" } : Jvm.MethodName) ∈ lw_tbl := am_tb 340 (by rfl)
theorem co_T_factor : Jvm.Cond.code ({ cls := "IndependenceRows$Tables", name := "factor", desc := "(LIndependenceRows$Graph;II)I" } : Jvm.MethodName) prog_5_method_7_code (5 : Nat) (Option.some Jvm.ClassFile.FieldType.int) ∈ lw_tbl := am_tb 341 (by rfl)
theorem lk_T_52 : Jvm.Cond.methodLink "IndependenceRows$Tables" (52 : Nat) ({ cls := "IndependenceRows$Tables", name := "rowIn", desc := "(II)I" } : Jvm.MethodName) ∈ lw_tbl := am_tb 342 (by rfl)
theorem sm_T_rowIn : Jvm.Cond.static ({ cls := "IndependenceRows$Tables", name := "rowIn", desc := "(II)I" } : Jvm.MethodName) ∈ lw_tbl := am_tb 343 (by rfl)
theorem co_T_rowIn : Jvm.Cond.code ({ cls := "IndependenceRows$Tables", name := "rowIn", desc := "(II)I" } : Jvm.MethodName) prog_5_method_8_code (5 : Nat) (Option.some Jvm.ClassFile.FieldType.int) ∈ lw_tbl := am_tb 344 (by rfl)
theorem lk_L_61 : Jvm.Cond.methodLink "IndependenceRowsLaw" (61 : Nat) ({ cls := "IndependenceRows", name := "independent", desc := "(III)I" } : Jvm.MethodName) ∈ lw_tbl := am_tb 345 (by rfl)
theorem im_X_independent : Jvm.Cond.instanceMethod ({ cls := "IndependenceRows", name := "independent", desc := "(III)I" } : Jvm.MethodName) ∈ lw_tbl := am_tb 346 (by rfl)
theorem se_X_independent : Jvm.Cond.selects "IndependenceRows" ({ cls := "IndependenceRows", name := "independent", desc := "(III)I" } : Jvm.MethodName) ({ cls := "IndependenceRows", name := "independent", desc := "(III)I" } : Jvm.MethodName) ∈ lw_tbl := am_tb 347 (by rfl)
theorem co_X_independent : Jvm.Cond.code ({ cls := "IndependenceRows", name := "independent", desc := "(III)I" } : Jvm.MethodName) prog_1_method_13_code (4 : Nat) (Option.some Jvm.ClassFile.FieldType.int) ∈ lw_tbl := am_tb 348 (by rfl)
theorem lk_X_164 : Jvm.Cond.methodLink "IndependenceRows" (164 : Nat) ({ cls := "IndependenceRows", name := "leastDifference", desc := "(III)I" } : Jvm.MethodName) ∈ lw_tbl := am_tb 349 (by rfl)
theorem im_X_leastDifference : Jvm.Cond.instanceMethod ({ cls := "IndependenceRows", name := "leastDifference", desc := "(III)I" } : Jvm.MethodName) ∈ lw_tbl := am_tb 351 (by rfl)
theorem co_X_leastDifference : Jvm.Cond.code ({ cls := "IndependenceRows", name := "leastDifference", desc := "(III)I" } : Jvm.MethodName) prog_1_method_28_code (9 : Nat) (Option.some Jvm.ClassFile.FieldType.int) ∈ lw_tbl := am_tb 352 (by rfl)
theorem lk_X_195 : Jvm.Cond.methodLinkNest "IndependenceRows" (195 : Nat) ({ cls := "IndependenceRows$Margin", name := "start", desc := "(I)V" } : Jvm.MethodName) "IndependenceRows" ∈ lw_tbl := am_tb 353 (by rfl)
theorem im_N_start : Jvm.Cond.instanceMethod ({ cls := "IndependenceRows$Margin", name := "start", desc := "(I)V" } : Jvm.MethodName) ∈ lw_tbl := am_tb 355 (by rfl)
theorem co_N_start : Jvm.Cond.code ({ cls := "IndependenceRows$Margin", name := "start", desc := "(I)V" } : Jvm.MethodName) prog_4_method_2_code (2 : Nat) (Option.none : Option Jvm.ClassFile.FieldType) ∈ lw_tbl := am_tb 356 (by rfl)
theorem lk_N_19 : Jvm.Cond.methodLink "IndependenceRows$Margin" (19 : Nat) ({ cls := "java/util/Arrays", name := "fill", desc := "([JJ)V" } : Jvm.MethodName) ∈ lw_tbl := am_tb 357 (by rfl)
theorem sm_A_fillJ : Jvm.Cond.static ({ cls := "java/util/Arrays", name := "fill", desc := "([JJ)V" } : Jvm.MethodName) ∈ lw_tbl := am_tb 358 (by rfl)
theorem co_A_fillJ : Jvm.Cond.code ({ cls := "java/util/Arrays", name := "fill", desc := "([JJ)V" } : Jvm.MethodName) prog_11_method_101_code (5 : Nat) (Option.none : Option Jvm.ClassFile.FieldType) ∈ lw_tbl := am_tb 359 (by rfl)
theorem lk_X_198 : Jvm.Cond.methodLinkNest "IndependenceRows" (198 : Nat) ({ cls := "IndependenceRows$Margin", name := "add", desc := "(IJ)V" } : Jvm.MethodName) "IndependenceRows" ∈ lw_tbl := am_tb 360 (by rfl)
theorem im_N_add : Jvm.Cond.instanceMethod ({ cls := "IndependenceRows$Margin", name := "add", desc := "(IJ)V" } : Jvm.MethodName) ∈ lw_tbl := am_tb 362 (by rfl)
theorem co_N_add : Jvm.Cond.code ({ cls := "IndependenceRows$Margin", name := "add", desc := "(IJ)V" } : Jvm.MethodName) prog_4_method_3_code (4 : Nat) (Option.none : Option Jvm.ClassFile.FieldType) ∈ lw_tbl := am_tb 363 (by rfl)
theorem lk_X_202 : Jvm.Cond.methodLinkNest "IndependenceRows" (202 : Nat) ({ cls := "IndependenceRows$Margin", name := "sum", desc := "(I)J" } : Jvm.MethodName) "IndependenceRows" ∈ lw_tbl := am_tb 364 (by rfl)
theorem im_N_sum : Jvm.Cond.instanceMethod ({ cls := "IndependenceRows$Margin", name := "sum", desc := "(I)J" } : Jvm.MethodName) ∈ lw_tbl := am_tb 366 (by rfl)
theorem co_N_sum : Jvm.Cond.code ({ cls := "IndependenceRows$Margin", name := "sum", desc := "(I)J" } : Jvm.MethodName) prog_4_method_4_code (2 : Nat) (Option.some Jvm.ClassFile.FieldType.long) ∈ lw_tbl := am_tb 367 (by rfl)
theorem lk_L_65 : Jvm.Cond.methodLink "IndependenceRowsLaw" (65 : Nat) ({ cls := "IndependenceRows", name := "differ", desc := "(III)I" } : Jvm.MethodName) ∈ lw_tbl := am_tb 368 (by rfl)
theorem im_X_differ : Jvm.Cond.instanceMethod ({ cls := "IndependenceRows", name := "differ", desc := "(III)I" } : Jvm.MethodName) ∈ lw_tbl := am_tb 369 (by rfl)
theorem se_X_differ : Jvm.Cond.selects "IndependenceRows" ({ cls := "IndependenceRows", name := "differ", desc := "(III)I" } : Jvm.MethodName) ({ cls := "IndependenceRows", name := "differ", desc := "(III)I" } : Jvm.MethodName) ∈ lw_tbl := am_tb 370 (by rfl)
theorem co_X_differ : Jvm.Cond.code ({ cls := "IndependenceRows", name := "differ", desc := "(III)I" } : Jvm.MethodName) prog_1_method_14_code (4 : Nat) (Option.some Jvm.ClassFile.FieldType.int) ∈ lw_tbl := am_tb 371 (by rfl)
theorem lk_L_69 : Jvm.Cond.methodLink "IndependenceRowsLaw" (69 : Nat) ({ cls := "IndependenceRows", name := "blanket", desc := "(I)I" } : Jvm.MethodName) ∈ lw_tbl := am_tb 372 (by rfl)
theorem im_X_blanket : Jvm.Cond.instanceMethod ({ cls := "IndependenceRows", name := "blanket", desc := "(I)I" } : Jvm.MethodName) ∈ lw_tbl := am_tb 373 (by rfl)
theorem se_X_blanket : Jvm.Cond.selects "IndependenceRows" ({ cls := "IndependenceRows", name := "blanket", desc := "(I)I" } : Jvm.MethodName) ({ cls := "IndependenceRows", name := "blanket", desc := "(I)I" } : Jvm.MethodName) ∈ lw_tbl := am_tb 374 (by rfl)
theorem co_X_blanket : Jvm.Cond.code ({ cls := "IndependenceRows", name := "blanket", desc := "(I)I" } : Jvm.MethodName) prog_1_method_15_code (2 : Nat) (Option.some Jvm.ClassFile.FieldType.int) ∈ lw_tbl := am_tb 375 (by rfl)
theorem lk_X_167 : Jvm.Cond.methodLink "IndependenceRows" (167 : Nat) ({ cls := "IndependenceRows", name := "fewest", desc := "(III)I" } : Jvm.MethodName) ∈ lw_tbl := am_tb 376 (by rfl)
theorem im_X_fewest : Jvm.Cond.instanceMethod ({ cls := "IndependenceRows", name := "fewest", desc := "(III)I" } : Jvm.MethodName) ∈ lw_tbl := am_tb 378 (by rfl)
theorem co_X_fewest : Jvm.Cond.code ({ cls := "IndependenceRows", name := "fewest", desc := "(III)I" } : Jvm.MethodName) prog_1_method_29_code (8 : Nat) (Option.some Jvm.ClassFile.FieldType.int) ∈ lw_tbl := am_tb 379 (by rfl)
theorem lk_X_190 : Jvm.Cond.methodLink "IndependenceRows" (190 : Nat) ({ cls := "java/lang/Integer", name := "bitCount", desc := "(I)I" } : Jvm.MethodName) ∈ lw_tbl := am_tb 380 (by rfl)
theorem lk_X_206 : Jvm.Cond.methodLinkNest "IndependenceRows" (206 : Nat) ({ cls := "IndependenceRows$Walks", name := "reached", desc := "(II)I" } : Jvm.MethodName) "IndependenceRows" ∈ lw_tbl := am_tb 381 (by rfl)
theorem im_V_reached : Jvm.Cond.instanceMethod ({ cls := "IndependenceRows$Walks", name := "reached", desc := "(II)I" } : Jvm.MethodName) ∈ lw_tbl := am_tb 383 (by rfl)
theorem co_V_reached : Jvm.Cond.code ({ cls := "IndependenceRows$Walks", name := "reached", desc := "(II)I" } : Jvm.MethodName) prog_6_method_5_code (4 : Nat) (Option.some Jvm.ClassFile.FieldType.int) ∈ lw_tbl := am_tb 384 (by rfl)
theorem lk_L_74 : Jvm.Cond.methodLink "IndependenceRowsLaw" (74 : Nat) ({ cls := "IndependenceRows", name := "least", desc := "(II)I" } : Jvm.MethodName) ∈ lw_tbl := am_tb 385 (by rfl)
theorem im_X_least : Jvm.Cond.instanceMethod ({ cls := "IndependenceRows", name := "least", desc := "(II)I" } : Jvm.MethodName) ∈ lw_tbl := am_tb 386 (by rfl)
theorem se_X_least : Jvm.Cond.selects "IndependenceRows" ({ cls := "IndependenceRows", name := "least", desc := "(II)I" } : Jvm.MethodName) ({ cls := "IndependenceRows", name := "least", desc := "(II)I" } : Jvm.MethodName) ∈ lw_tbl := am_tb 387 (by rfl)
theorem co_X_least : Jvm.Cond.code ({ cls := "IndependenceRows", name := "least", desc := "(II)I" } : Jvm.MethodName) prog_1_method_16_code (3 : Nat) (Option.some Jvm.ClassFile.FieldType.int) ∈ lw_tbl := am_tb 388 (by rfl)
theorem lk_L_78 : Jvm.Cond.methodLink "IndependenceRowsLaw" (78 : Nat) ({ cls := "IndependenceRows", name := "enough", desc := "(III)I" } : Jvm.MethodName) ∈ lw_tbl := am_tb 389 (by rfl)
theorem im_X_enough : Jvm.Cond.instanceMethod ({ cls := "IndependenceRows", name := "enough", desc := "(III)I" } : Jvm.MethodName) ∈ lw_tbl := am_tb 390 (by rfl)
theorem se_X_enough : Jvm.Cond.selects "IndependenceRows" ({ cls := "IndependenceRows", name := "enough", desc := "(III)I" } : Jvm.MethodName) ({ cls := "IndependenceRows", name := "enough", desc := "(III)I" } : Jvm.MethodName) ∈ lw_tbl := am_tb 391 (by rfl)
theorem co_X_enough : Jvm.Cond.code ({ cls := "IndependenceRows", name := "enough", desc := "(III)I" } : Jvm.MethodName) prog_1_method_17_code (4 : Nat) (Option.some Jvm.ClassFile.FieldType.int) ∈ lw_tbl := am_tb 392 (by rfl)
theorem lk_L_82 : Jvm.Cond.methodLink "IndependenceRowsLaw" (82 : Nat) ({ cls := "IndependenceRows", name := "keep", desc := "()I" } : Jvm.MethodName) ∈ lw_tbl := am_tb 393 (by rfl)
theorem im_X_keep : Jvm.Cond.instanceMethod ({ cls := "IndependenceRows", name := "keep", desc := "()I" } : Jvm.MethodName) ∈ lw_tbl := am_tb 394 (by rfl)
theorem se_X_keep : Jvm.Cond.selects "IndependenceRows" ({ cls := "IndependenceRows", name := "keep", desc := "()I" } : Jvm.MethodName) ({ cls := "IndependenceRows", name := "keep", desc := "()I" } : Jvm.MethodName) ∈ lw_tbl := am_tb 395 (by rfl)
theorem co_X_keep : Jvm.Cond.code ({ cls := "IndependenceRows", name := "keep", desc := "()I" } : Jvm.MethodName) prog_1_method_18_code (1 : Nat) (Option.some Jvm.ClassFile.FieldType.int) ∈ lw_tbl := am_tb 396 (by rfl)
theorem lk_X_170 : Jvm.Cond.methodLinkNest "IndependenceRows" (170 : Nat) ({ cls := "IndependenceRows$Graph", name := "copy", desc := "(LIndependenceRows$Graph;)V" } : Jvm.MethodName) "IndependenceRows" ∈ lw_tbl := am_tb 397 (by rfl)
theorem im_G_copy : Jvm.Cond.instanceMethod ({ cls := "IndependenceRows$Graph", name := "copy", desc := "(LIndependenceRows$Graph;)V" } : Jvm.MethodName) ∈ lw_tbl := am_tb 399 (by rfl)
theorem co_G_copy : Jvm.Cond.code ({ cls := "IndependenceRows$Graph", name := "copy", desc := "(LIndependenceRows$Graph;)V" } : Jvm.MethodName) prog_2_method_3_code (2 : Nat) (Option.none : Option Jvm.ClassFile.FieldType) ∈ lw_tbl := am_tb 400 (by rfl)
theorem lk_G_31 : Jvm.Cond.methodLink "IndependenceRows$Graph" (31 : Nat) ({ cls := "java/lang/System", name := "arraycopy", desc := "(Ljava/lang/Object;ILjava/lang/Object;II)V" } : Jvm.MethodName) ∈ lw_tbl := am_tb 401 (by rfl)
theorem sm_S_arraycopy : Jvm.Cond.static ({ cls := "java/lang/System", name := "arraycopy", desc := "(Ljava/lang/Object;ILjava/lang/Object;II)V" } : Jvm.MethodName) ∈ lw_tbl := am_tb 402 (by rfl)
theorem na_S_arraycopy : Jvm.Cond.native ({ cls := "java/lang/System", name := "arraycopy", desc := "(Ljava/lang/Object;ILjava/lang/Object;II)V" } : Jvm.MethodName) ∈ lw_tbl := am_tb 403 (by rfl)
theorem lk_L_86 : Jvm.Cond.methodLink "IndependenceRowsLaw" (86 : Nat) ({ cls := "IndependenceRows", name := "alike", desc := "()I" } : Jvm.MethodName) ∈ lw_tbl := am_tb 404 (by rfl)
theorem im_X_alike : Jvm.Cond.instanceMethod ({ cls := "IndependenceRows", name := "alike", desc := "()I" } : Jvm.MethodName) ∈ lw_tbl := am_tb 405 (by rfl)
theorem se_X_alike : Jvm.Cond.selects "IndependenceRows" ({ cls := "IndependenceRows", name := "alike", desc := "()I" } : Jvm.MethodName) ({ cls := "IndependenceRows", name := "alike", desc := "()I" } : Jvm.MethodName) ∈ lw_tbl := am_tb 406 (by rfl)
theorem co_X_alike : Jvm.Cond.code ({ cls := "IndependenceRows", name := "alike", desc := "()I" } : Jvm.MethodName) prog_1_method_19_code (1 : Nat) (Option.some Jvm.ClassFile.FieldType.int) ∈ lw_tbl := am_tb 407 (by rfl)
theorem lk_X_174 : Jvm.Cond.methodLinkNest "IndependenceRows" (174 : Nat) ({ cls := "IndependenceRows$Graph", name := "tellsTheSameAs", desc := "(LIndependenceRows$Graph;)Z" } : Jvm.MethodName) "IndependenceRows" ∈ lw_tbl := am_tb 408 (by rfl)
theorem im_G_tellsTheSameAs : Jvm.Cond.instanceMethod ({ cls := "IndependenceRows$Graph", name := "tellsTheSameAs", desc := "(LIndependenceRows$Graph;)Z" } : Jvm.MethodName) ∈ lw_tbl := am_tb 410 (by rfl)
theorem co_G_tellsTheSameAs : Jvm.Cond.code ({ cls := "IndependenceRows$Graph", name := "tellsTheSameAs", desc := "(LIndependenceRows$Graph;)Z" } : Jvm.MethodName) prog_2_method_10_code (4 : Nat) (Option.some Jvm.ClassFile.FieldType.boolean) ∈ lw_tbl := am_tb 411 (by rfl)
theorem lk_G_50 : Jvm.Cond.methodLink "IndependenceRows$Graph" (50 : Nat) ({ cls := "IndependenceRows$Graph", name := "neighbours", desc := "(I)I" } : Jvm.MethodName) ∈ lw_tbl := am_tb 412 (by rfl)
theorem lk_G_53 : Jvm.Cond.methodLink "IndependenceRows$Graph" (53 : Nat) ({ cls := "IndependenceRows$Graph", name := "strangers", desc := "(II)I" } : Jvm.MethodName) ∈ lw_tbl := am_tb 413 (by rfl)
theorem im_G_strangers : Jvm.Cond.instanceMethod ({ cls := "IndependenceRows$Graph", name := "strangers", desc := "(II)I" } : Jvm.MethodName) ∈ lw_tbl := am_tb 415 (by rfl)
theorem co_G_strangers : Jvm.Cond.code ({ cls := "IndependenceRows$Graph", name := "strangers", desc := "(II)I" } : Jvm.MethodName) prog_2_method_9_code (3 : Nat) (Option.some Jvm.ClassFile.FieldType.int) ∈ lw_tbl := am_tb 416 (by rfl)
theorem lk_G_46 : Jvm.Cond.methodLinkNest "IndependenceRows$Graph" (46 : Nat) ({ cls := "IndependenceRows", name := "has", desc := "(II)Z" } : Jvm.MethodName) "IndependenceRows" ∈ lw_tbl := am_tb 417 (by rfl)
theorem lk_L_90 : Jvm.Cond.methodLink "IndependenceRowsLaw" (90 : Nat) ({ cls := "IndependenceRows", name := "settled", desc := "(II)I" } : Jvm.MethodName) ∈ lw_tbl := am_tb 418 (by rfl)
theorem im_X_settled : Jvm.Cond.instanceMethod ({ cls := "IndependenceRows", name := "settled", desc := "(II)I" } : Jvm.MethodName) ∈ lw_tbl := am_tb 419 (by rfl)
theorem se_X_settled : Jvm.Cond.selects "IndependenceRows" ({ cls := "IndependenceRows", name := "settled", desc := "(II)I" } : Jvm.MethodName) ({ cls := "IndependenceRows", name := "settled", desc := "(II)I" } : Jvm.MethodName) ∈ lw_tbl := am_tb 420 (by rfl)
theorem co_X_settled : Jvm.Cond.code ({ cls := "IndependenceRows", name := "settled", desc := "(II)I" } : Jvm.MethodName) prog_1_method_20_code (3 : Nat) (Option.some Jvm.ClassFile.FieldType.int) ∈ lw_tbl := am_tb 421 (by rfl)
theorem lk_X_178 : Jvm.Cond.methodLinkNest "IndependenceRows" (178 : Nat) ({ cls := "IndependenceRows$Kin", name := "explore", desc := "(LIndependenceRows$Graph;)V" } : Jvm.MethodName) "IndependenceRows" ∈ lw_tbl := am_tb 422 (by rfl)
theorem im_K_explore : Jvm.Cond.instanceMethod ({ cls := "IndependenceRows$Kin", name := "explore", desc := "(LIndependenceRows$Graph;)V" } : Jvm.MethodName) ∈ lw_tbl := am_tb 424 (by rfl)
theorem co_K_explore : Jvm.Cond.code ({ cls := "IndependenceRows$Kin", name := "explore", desc := "(LIndependenceRows$Graph;)V" } : Jvm.MethodName) prog_3_method_2_code (2 : Nat) (Option.none : Option Jvm.ClassFile.FieldType) ∈ lw_tbl := am_tb 425 (by rfl)
theorem lk_K_38 : Jvm.Cond.methodLinkNest "IndependenceRows$Kin" (38 : Nat) ({ cls := "IndependenceRows$Graph", name := "copy", desc := "(LIndependenceRows$Graph;)V" } : Jvm.MethodName) "IndependenceRows" ∈ lw_tbl := am_tb 426 (by rfl)
theorem lk_K_42 : Jvm.Cond.methodLink "IndependenceRows$Kin" (42 : Nat) ({ cls := "IndependenceRows$Kin", name := "listArcs", desc := "()V" } : Jvm.MethodName) ∈ lw_tbl := am_tb 427 (by rfl)
theorem im_K_listArcs : Jvm.Cond.instanceMethod ({ cls := "IndependenceRows$Kin", name := "listArcs", desc := "()V" } : Jvm.MethodName) ∈ lw_tbl := am_tb 429 (by rfl)
theorem co_K_listArcs : Jvm.Cond.code ({ cls := "IndependenceRows$Kin", name := "listArcs", desc := "()V" } : Jvm.MethodName) prog_3_method_3_code (3 : Nat) (Option.none : Option Jvm.ClassFile.FieldType) ∈ lw_tbl := am_tb 430 (by rfl)
theorem lk_K_61 : Jvm.Cond.methodLinkNest "IndependenceRows$Kin" (61 : Nat) ({ cls := "IndependenceRows", name := "has", desc := "(II)Z" } : Jvm.MethodName) "IndependenceRows" ∈ lw_tbl := am_tb 431 (by rfl)
theorem lk_K_45 : Jvm.Cond.methodLink "IndependenceRows$Kin" (45 : Nat) ({ cls := "java/util/Arrays", name := "fill", desc := "([II)V" } : Jvm.MethodName) ∈ lw_tbl := am_tb 432 (by rfl)
theorem lk_K_51 : Jvm.Cond.methodLink "IndependenceRows$Kin" (51 : Nat) ({ cls := "IndependenceRows$Kin", name := "direct", desc := "(II)V" } : Jvm.MethodName) ∈ lw_tbl := am_tb 433 (by rfl)
theorem im_K_direct : Jvm.Cond.instanceMethod ({ cls := "IndependenceRows$Kin", name := "direct", desc := "(II)V" } : Jvm.MethodName) ∈ lw_tbl := am_tb 435 (by rfl)
theorem co_K_direct : Jvm.Cond.code ({ cls := "IndependenceRows$Kin", name := "direct", desc := "(II)V" } : Jvm.MethodName) prog_3_method_5_code (5 : Nat) (Option.none : Option Jvm.ClassFile.FieldType) ∈ lw_tbl := am_tb 436 (by rfl)
theorem lk_K_65 : Jvm.Cond.methodLink "IndependenceRows$Kin" (65 : Nat) ({ cls := "IndependenceRows$Kin", name := "directOne", desc := "(IIII)V" } : Jvm.MethodName) ∈ lw_tbl := am_tb 437 (by rfl)
theorem im_K_directOne : Jvm.Cond.instanceMethod ({ cls := "IndependenceRows$Kin", name := "directOne", desc := "(IIII)V" } : Jvm.MethodName) ∈ lw_tbl := am_tb 439 (by rfl)
theorem co_K_directOne : Jvm.Cond.code ({ cls := "IndependenceRows$Kin", name := "directOne", desc := "(IIII)V" } : Jvm.MethodName) prog_3_method_6_code (5 : Nat) (Option.none : Option Jvm.ClassFile.FieldType) ∈ lw_tbl := am_tb 440 (by rfl)
theorem lk_K_77 : Jvm.Cond.methodLink "IndependenceRows$Kin" (77 : Nat) ({ cls := "IndependenceRows$Kin", name := "meetsAsFirst", desc := "(II)Z" } : Jvm.MethodName) ∈ lw_tbl := am_tb 441 (by rfl)
theorem im_K_meetsAsFirst : Jvm.Cond.instanceMethod ({ cls := "IndependenceRows$Kin", name := "meetsAsFirst", desc := "(II)Z" } : Jvm.MethodName) ∈ lw_tbl := am_tb 443 (by rfl)
theorem co_K_meetsAsFirst : Jvm.Cond.code ({ cls := "IndependenceRows$Kin", name := "meetsAsFirst", desc := "(II)Z" } : Jvm.MethodName) prog_3_method_7_code (4 : Nat) (Option.some Jvm.ClassFile.FieldType.boolean) ∈ lw_tbl := am_tb 444 (by rfl)
theorem lk_K_84 : Jvm.Cond.methodLinkNest "IndependenceRows$Kin" (84 : Nat) ({ cls := "IndependenceRows$Graph", name := "neighbours", desc := "(I)I" } : Jvm.MethodName) "IndependenceRows" ∈ lw_tbl := am_tb 445 (by rfl)
theorem lk_K_69 : Jvm.Cond.methodLinkNest "IndependenceRows$Kin" (69 : Nat) ({ cls := "IndependenceRows$Graph", name := "strangers", desc := "(II)I" } : Jvm.MethodName) "IndependenceRows" ∈ lw_tbl := am_tb 446 (by rfl)
theorem lk_K_73 : Jvm.Cond.methodLinkNest "IndependenceRows$Kin" (73 : Nat) ({ cls := "IndependenceRows", name := "bit", desc := "(I)I" } : Jvm.MethodName) "IndependenceRows" ∈ lw_tbl := am_tb 447 (by rfl)
theorem lk_K_80 : Jvm.Cond.methodLinkNest "IndependenceRows$Kin" (80 : Nat) ({ cls := "IndependenceRows", name := "closure", desc := "([II)I" } : Jvm.MethodName) "IndependenceRows" ∈ lw_tbl := am_tb 448 (by rfl)
theorem lk_X_181 : Jvm.Cond.methodLinkNest "IndependenceRows" (181 : Nat) ({ cls := "IndependenceRows$Kin", name := "isTurned", desc := "(II)Z" } : Jvm.MethodName) "IndependenceRows" ∈ lw_tbl := am_tb 449 (by rfl)
theorem im_K_isTurned : Jvm.Cond.instanceMethod ({ cls := "IndependenceRows$Kin", name := "isTurned", desc := "(II)Z" } : Jvm.MethodName) ∈ lw_tbl := am_tb 451 (by rfl)
theorem co_K_isTurned : Jvm.Cond.code ({ cls := "IndependenceRows$Kin", name := "isTurned", desc := "(II)Z" } : Jvm.MethodName) prog_3_method_4_code (4 : Nat) (Option.some Jvm.ClassFile.FieldType.boolean) ∈ lw_tbl := am_tb 452 (by rfl)
theorem lk_L_94 : Jvm.Cond.methodLink "IndependenceRowsLaw" (94 : Nat) ({ cls := "IndependenceRows", name := "family", desc := "()I" } : Jvm.MethodName) ∈ lw_tbl := am_tb 453 (by rfl)
theorem im_X_family : Jvm.Cond.instanceMethod ({ cls := "IndependenceRows", name := "family", desc := "()I" } : Jvm.MethodName) ∈ lw_tbl := am_tb 454 (by rfl)
theorem se_X_family : Jvm.Cond.selects "IndependenceRows" ({ cls := "IndependenceRows", name := "family", desc := "()I" } : Jvm.MethodName) ({ cls := "IndependenceRows", name := "family", desc := "()I" } : Jvm.MethodName) ∈ lw_tbl := am_tb 455 (by rfl)
theorem co_X_family : Jvm.Cond.code ({ cls := "IndependenceRows", name := "family", desc := "()I" } : Jvm.MethodName) prog_1_method_21_code (1 : Nat) (Option.some Jvm.ClassFile.FieldType.int) ∈ lw_tbl := am_tb 456 (by rfl)
theorem lk_L_98 : Jvm.Cond.methodLink "IndependenceRowsLaw" (98 : Nat) ({ cls := "IndependenceRows", name := "count", desc := "(I)I" } : Jvm.MethodName) ∈ lw_tbl := am_tb 457 (by rfl)
theorem im_X_count : Jvm.Cond.instanceMethod ({ cls := "IndependenceRows", name := "count", desc := "(I)I" } : Jvm.MethodName) ∈ lw_tbl := am_tb 458 (by rfl)
theorem se_X_count : Jvm.Cond.selects "IndependenceRows" ({ cls := "IndependenceRows", name := "count", desc := "(I)I" } : Jvm.MethodName) ({ cls := "IndependenceRows", name := "count", desc := "(I)I" } : Jvm.MethodName) ∈ lw_tbl := am_tb 459 (by rfl)
theorem co_X_count : Jvm.Cond.code ({ cls := "IndependenceRows", name := "count", desc := "(I)I" } : Jvm.MethodName) prog_1_method_22_code (2 : Nat) (Option.some Jvm.ClassFile.FieldType.int) ∈ lw_tbl := am_tb 460 (by rfl)
theorem ck_L_10 : Jvm.Cond.classLink "IndependenceRowsLaw" (10 : Nat) "IndependenceRowsModel" ∈ lw_tbl := am_tb 461 (by rfl)
theorem ins_Y : Jvm.Cond.instantiable "IndependenceRowsModel" (23 : Nat) ∈ lw_tbl := am_tb 462 (by rfl)
theorem lk_L_12 : Jvm.Cond.methodLink "IndependenceRowsLaw" (12 : Nat) ({ cls := "IndependenceRowsModel", name := "<init>", desc := "()V" } : Jvm.MethodName) ∈ lw_tbl := am_tb 463 (by rfl)
theorem im_Y_init : Jvm.Cond.instanceMethod ({ cls := "IndependenceRowsModel", name := "<init>", desc := "()V" } : Jvm.MethodName) ∈ lw_tbl := am_tb 464 (by rfl)
theorem co_Y_init : Jvm.Cond.code ({ cls := "IndependenceRowsModel", name := "<init>", desc := "()V" } : Jvm.MethodName) prog_8_method_1_code (1 : Nat) (Option.none : Option Jvm.ClassFile.FieldType) ∈ lw_tbl := am_tb 465 (by rfl)
theorem lk_Y_1 : Jvm.Cond.methodLink "IndependenceRowsModel" (1 : Nat) ({ cls := "java/lang/Object", name := "<init>", desc := "()V" } : Jvm.MethodName) ∈ lw_tbl := am_tb 466 (by rfl)
theorem lk_Y_60 : Jvm.Cond.methodLink "IndependenceRowsModel" (60 : Nat) ({ cls := "IndependenceRowsModel", name := "begin", desc := "()V" } : Jvm.MethodName) ∈ lw_tbl := am_tb 467 (by rfl)
theorem im_Y_begin : Jvm.Cond.instanceMethod ({ cls := "IndependenceRowsModel", name := "begin", desc := "()V" } : Jvm.MethodName) ∈ lw_tbl := am_tb 469 (by rfl)
theorem co_Y_begin : Jvm.Cond.code ({ cls := "IndependenceRowsModel", name := "begin", desc := "()V" } : Jvm.MethodName) prog_8_method_2_code (2 : Nat) (Option.none : Option Jvm.ClassFile.FieldType) ∈ lw_tbl := am_tb 470 (by rfl)
theorem fk_Y_63 : Jvm.Cond.fieldLink "IndependenceRowsModel" (63 : Nat) "IndependenceRowsModel" "places" "I" ∈ lw_tbl := am_tb 471 (by rfl)
theorem fk_Y_67 : Jvm.Cond.fieldLink "IndependenceRowsModel" (67 : Nat) "IndependenceRowsModel" "arcs" "I" ∈ lw_tbl := am_tb 472 (by rfl)
theorem fk_Y_7 : Jvm.Cond.fieldLink "IndependenceRowsModel" (7 : Nat) "IndependenceRowsModel" "parents" "[I" ∈ lw_tbl := am_tb 473 (by rfl)
theorem fk_Y_13 : Jvm.Cond.fieldLink "IndependenceRowsModel" (13 : Nat) "IndependenceRowsModel" "held" "[I" ∈ lw_tbl := am_tb 474 (by rfl)
theorem fk_Y_16 : Jvm.Cond.fieldLink "IndependenceRowsModel" (16 : Nat) "IndependenceRowsModel" "odds" "[I" ∈ lw_tbl := am_tb 475 (by rfl)
theorem fk_Y_70 : Jvm.Cond.fieldLink "IndependenceRowsModel" (70 : Nat) "IndependenceRowsModel" "isKept" "Z" ∈ lw_tbl := am_tb 476 (by rfl)
theorem fk_Y_132 : Jvm.Cond.fieldLink "IndependenceRowsModel" (132 : Nat) "IndependenceRowsModel" "keptPlaces" "I" ∈ lw_tbl := am_tb 477 (by rfl)
theorem fk_Y_19 : Jvm.Cond.fieldLink "IndependenceRowsModel" (19 : Nat) "IndependenceRowsModel" "kept" "[I" ∈ lw_tbl := am_tb 478 (by rfl)
theorem fk_Y_74 : Jvm.Cond.fieldLink "IndependenceRowsModel" (74 : Nat) "IndependenceRowsModel" "isCounted" "Z" ∈ lw_tbl := am_tb 479 (by rfl)
theorem fk_Y_146 : Jvm.Cond.fieldLink "IndependenceRowsModel" (146 : Nat) "IndependenceRowsModel" "familySize" "I" ∈ lw_tbl := am_tb 480 (by rfl)
theorem fk_Y_149 : Jvm.Cond.fieldLink "IndependenceRowsModel" (149 : Nat) "IndependenceRowsModel" "settledMask" "I" ∈ lw_tbl := am_tb 481 (by rfl)
theorem fk_Y_22 : Jvm.Cond.fieldLink "IndependenceRowsModel" (22 : Nat) "IndependenceRowsModel" "counted" "[I" ∈ lw_tbl := am_tb 482 (by rfl)
theorem fk_Y_25 : Jvm.Cond.fieldLink "IndependenceRowsModel" (25 : Nat) "IndependenceRowsModel" "children" "[I" ∈ lw_tbl := am_tb 483 (by rfl)
theorem fk_Y_28 : Jvm.Cond.fieldLink "IndependenceRowsModel" (28 : Nat) "IndependenceRowsModel" "near" "[I" ∈ lw_tbl := am_tb 484 (by rfl)
theorem fk_Y_31 : Jvm.Cond.fieldLink "IndependenceRowsModel" (31 : Nat) "IndependenceRowsModel" "layer" "[I" ∈ lw_tbl := am_tb 485 (by rfl)
theorem fk_Y_34 : Jvm.Cond.fieldLink "IndependenceRowsModel" (34 : Nat) "IndependenceRowsModel" "nextLayer" "[I" ∈ lw_tbl := am_tb 486 (by rfl)
theorem fk_Y_37 : Jvm.Cond.fieldLink "IndependenceRowsModel" (37 : Nat) "IndependenceRowsModel" "met" "[I" ∈ lw_tbl := am_tb 487 (by rfl)
theorem fk_Y_40 : Jvm.Cond.fieldLink "IndependenceRowsModel" (40 : Nat) "IndependenceRowsModel" "weights" "[J" ∈ lw_tbl := am_tb 488 (by rfl)
theorem fk_Y_44 : Jvm.Cond.fieldLink "IndependenceRowsModel" (44 : Nat) "IndependenceRowsModel" "sums" "[J" ∈ lw_tbl := am_tb 489 (by rfl)
theorem fk_Y_47 : Jvm.Cond.fieldLink "IndependenceRowsModel" (47 : Nat) "IndependenceRowsModel" "separates" "[Z" ∈ lw_tbl := am_tb 490 (by rfl)
theorem fk_Y_51 : Jvm.Cond.fieldLink "IndependenceRowsModel" (51 : Nat) "IndependenceRowsModel" "arcFrom" "[I" ∈ lw_tbl := am_tb 491 (by rfl)
theorem fk_Y_54 : Jvm.Cond.fieldLink "IndependenceRowsModel" (54 : Nat) "IndependenceRowsModel" "arcTo" "[I" ∈ lw_tbl := am_tb 492 (by rfl)
theorem fk_Y_57 : Jvm.Cond.fieldLink "IndependenceRowsModel" (57 : Nat) "IndependenceRowsModel" "turned" "[I" ∈ lw_tbl := am_tb 493 (by rfl)
theorem arr_boolean : Jvm.Cond.arrayClass Jvm.ClassFile.FieldType.boolean ∈ lw_tbl := am_tb 541 (by rfl)
theorem lk_L_17 : Jvm.Cond.methodLink "IndependenceRowsLaw" (17 : Nat) ({ cls := "IndependenceRowsModel", name := "clear", desc := "()I" } : Jvm.MethodName) ∈ lw_tbl := am_tb 542 (by rfl)
theorem im_Y_clear : Jvm.Cond.instanceMethod ({ cls := "IndependenceRowsModel", name := "clear", desc := "()I" } : Jvm.MethodName) ∈ lw_tbl := am_tb 543 (by rfl)
theorem se_Y_clear : Jvm.Cond.selects "IndependenceRowsModel" ({ cls := "IndependenceRowsModel", name := "clear", desc := "()I" } : Jvm.MethodName) ({ cls := "IndependenceRowsModel", name := "clear", desc := "()I" } : Jvm.MethodName) ∈ lw_tbl := am_tb 544 (by rfl)
theorem co_Y_clear : Jvm.Cond.code ({ cls := "IndependenceRowsModel", name := "clear", desc := "()I" } : Jvm.MethodName) prog_8_method_3_code (2 : Nat) (Option.some Jvm.ClassFile.FieldType.int) ∈ lw_tbl := am_tb 545 (by rfl)
theorem lk_L_21 : Jvm.Cond.methodLink "IndependenceRowsLaw" (21 : Nat) ({ cls := "IndependenceRowsModel", name := "place", desc := "()I" } : Jvm.MethodName) ∈ lw_tbl := am_tb 546 (by rfl)
theorem im_Y_place : Jvm.Cond.instanceMethod ({ cls := "IndependenceRowsModel", name := "place", desc := "()I" } : Jvm.MethodName) ∈ lw_tbl := am_tb 547 (by rfl)
theorem se_Y_place : Jvm.Cond.selects "IndependenceRowsModel" ({ cls := "IndependenceRowsModel", name := "place", desc := "()I" } : Jvm.MethodName) ({ cls := "IndependenceRowsModel", name := "place", desc := "()I" } : Jvm.MethodName) ∈ lw_tbl := am_tb 548 (by rfl)
theorem co_Y_place : Jvm.Cond.code ({ cls := "IndependenceRowsModel", name := "place", desc := "()I" } : Jvm.MethodName) prog_8_method_9_code (2 : Nat) (Option.some Jvm.ClassFile.FieldType.int) ∈ lw_tbl := am_tb 549 (by rfl)
theorem lk_Y_84 : Jvm.Cond.methodLink "IndependenceRowsModel" (84 : Nat) ({ cls := "IndependenceRowsModel", name := "evenOdds", desc := "(I)V" } : Jvm.MethodName) ∈ lw_tbl := am_tb 550 (by rfl)
theorem im_Y_evenOdds : Jvm.Cond.instanceMethod ({ cls := "IndependenceRowsModel", name := "evenOdds", desc := "(I)V" } : Jvm.MethodName) ∈ lw_tbl := am_tb 552 (by rfl)
theorem co_Y_evenOdds : Jvm.Cond.code ({ cls := "IndependenceRowsModel", name := "evenOdds", desc := "(I)V" } : Jvm.MethodName) prog_8_method_8_code (3 : Nat) (Option.none : Option Jvm.ClassFile.FieldType) ∈ lw_tbl := am_tb 553 (by rfl)
theorem lk_L_26 : Jvm.Cond.methodLink "IndependenceRowsLaw" (26 : Nat) ({ cls := "IndependenceRowsModel", name := "arc", desc := "(II)I" } : Jvm.MethodName) ∈ lw_tbl := am_tb 554 (by rfl)
theorem im_Y_arc : Jvm.Cond.instanceMethod ({ cls := "IndependenceRowsModel", name := "arc", desc := "(II)I" } : Jvm.MethodName) ∈ lw_tbl := am_tb 555 (by rfl)
theorem se_Y_arc : Jvm.Cond.selects "IndependenceRowsModel" ({ cls := "IndependenceRowsModel", name := "arc", desc := "(II)I" } : Jvm.MethodName) ({ cls := "IndependenceRowsModel", name := "arc", desc := "(II)I" } : Jvm.MethodName) ∈ lw_tbl := am_tb 556 (by rfl)
theorem co_Y_arc : Jvm.Cond.code ({ cls := "IndependenceRowsModel", name := "arc", desc := "(II)I" } : Jvm.MethodName) prog_8_method_11_code (3 : Nat) (Option.some Jvm.ClassFile.FieldType.int) ∈ lw_tbl := am_tb 557 (by rfl)
theorem lk_Y_77 : Jvm.Cond.methodLink "IndependenceRowsModel" (77 : Nat) ({ cls := "IndependenceRowsModel", name := "isPlace", desc := "(I)Z" } : Jvm.MethodName) ∈ lw_tbl := am_tb 558 (by rfl)
theorem im_Y_isPlace : Jvm.Cond.instanceMethod ({ cls := "IndependenceRowsModel", name := "isPlace", desc := "(I)Z" } : Jvm.MethodName) ∈ lw_tbl := am_tb 560 (by rfl)
theorem co_Y_isPlace : Jvm.Cond.code ({ cls := "IndependenceRowsModel", name := "isPlace", desc := "(I)Z" } : Jvm.MethodName) prog_8_method_4_code (2 : Nat) (Option.some Jvm.ClassFile.FieldType.boolean) ∈ lw_tbl := am_tb 561 (by rfl)
theorem lk_Y_88 : Jvm.Cond.methodLink "IndependenceRowsModel" (88 : Nat) ({ cls := "IndependenceRowsModel", name := "aboveOf", desc := "([II)I" } : Jvm.MethodName) ∈ lw_tbl := am_tb 562 (by rfl)
theorem im_Y_aboveOf : Jvm.Cond.instanceMethod ({ cls := "IndependenceRowsModel", name := "aboveOf", desc := "([II)I" } : Jvm.MethodName) ∈ lw_tbl := am_tb 564 (by rfl)
theorem co_Y_aboveOf : Jvm.Cond.code ({ cls := "IndependenceRowsModel", name := "aboveOf", desc := "([II)I" } : Jvm.MethodName) prog_8_method_10_code (6 : Nat) (Option.some Jvm.ClassFile.FieldType.int) ∈ lw_tbl := am_tb 565 (by rfl)
theorem lk_L_30 : Jvm.Cond.methodLink "IndependenceRowsLaw" (30 : Nat) ({ cls := "IndependenceRowsModel", name := "cut", desc := "(II)I" } : Jvm.MethodName) ∈ lw_tbl := am_tb 566 (by rfl)
theorem im_Y_cut : Jvm.Cond.instanceMethod ({ cls := "IndependenceRowsModel", name := "cut", desc := "(II)I" } : Jvm.MethodName) ∈ lw_tbl := am_tb 567 (by rfl)
theorem se_Y_cut : Jvm.Cond.selects "IndependenceRowsModel" ({ cls := "IndependenceRowsModel", name := "cut", desc := "(II)I" } : Jvm.MethodName) ({ cls := "IndependenceRowsModel", name := "cut", desc := "(II)I" } : Jvm.MethodName) ∈ lw_tbl := am_tb 568 (by rfl)
theorem co_Y_cut : Jvm.Cond.code ({ cls := "IndependenceRowsModel", name := "cut", desc := "(II)I" } : Jvm.MethodName) prog_8_method_13_code (3 : Nat) (Option.some Jvm.ClassFile.FieldType.int) ∈ lw_tbl := am_tb 569 (by rfl)
theorem lk_Y_92 : Jvm.Cond.methodLink "IndependenceRowsModel" (92 : Nat) ({ cls := "IndependenceRowsModel", name := "isArc", desc := "(II)Z" } : Jvm.MethodName) ∈ lw_tbl := am_tb 570 (by rfl)
theorem im_Y_isArc : Jvm.Cond.instanceMethod ({ cls := "IndependenceRowsModel", name := "isArc", desc := "(II)Z" } : Jvm.MethodName) ∈ lw_tbl := am_tb 572 (by rfl)
theorem co_Y_isArc : Jvm.Cond.code ({ cls := "IndependenceRowsModel", name := "isArc", desc := "(II)Z" } : Jvm.MethodName) prog_8_method_12_code (3 : Nat) (Option.some Jvm.ClassFile.FieldType.boolean) ∈ lw_tbl := am_tb 573 (by rfl)
theorem lk_L_35 : Jvm.Cond.methodLink "IndependenceRowsLaw" (35 : Nat) ({ cls := "IndependenceRowsModel", name := "odds", desc := "(III)I" } : Jvm.MethodName) ∈ lw_tbl := am_tb 574 (by rfl)
theorem im_Y_odds : Jvm.Cond.instanceMethod ({ cls := "IndependenceRowsModel", name := "odds", desc := "(III)I" } : Jvm.MethodName) ∈ lw_tbl := am_tb 575 (by rfl)
theorem se_Y_odds : Jvm.Cond.selects "IndependenceRowsModel" ({ cls := "IndependenceRowsModel", name := "odds", desc := "(III)I" } : Jvm.MethodName) ({ cls := "IndependenceRowsModel", name := "odds", desc := "(III)I" } : Jvm.MethodName) ∈ lw_tbl := am_tb 576 (by rfl)
theorem co_Y_odds : Jvm.Cond.code ({ cls := "IndependenceRowsModel", name := "odds", desc := "(III)I" } : Jvm.MethodName) prog_8_method_15_code (5 : Nat) (Option.some Jvm.ClassFile.FieldType.int) ∈ lw_tbl := am_tb 577 (by rfl)
theorem lk_Y_100 : Jvm.Cond.methodLink "IndependenceRowsModel" (100 : Nat) ({ cls := "IndependenceRowsModel", name := "isRow", desc := "(II)Z" } : Jvm.MethodName) ∈ lw_tbl := am_tb 578 (by rfl)
theorem im_Y_isRow : Jvm.Cond.instanceMethod ({ cls := "IndependenceRowsModel", name := "isRow", desc := "(II)Z" } : Jvm.MethodName) ∈ lw_tbl := am_tb 580 (by rfl)
theorem co_Y_isRow : Jvm.Cond.code ({ cls := "IndependenceRowsModel", name := "isRow", desc := "(II)Z" } : Jvm.MethodName) prog_8_method_14_code (3 : Nat) (Option.some Jvm.ClassFile.FieldType.boolean) ∈ lw_tbl := am_tb 581 (by rfl)
theorem lk_Y_96 : Jvm.Cond.methodLink "IndependenceRowsModel" (96 : Nat) ({ cls := "IndependenceRowsModel", name := "many", desc := "(I)I" } : Jvm.MethodName) ∈ lw_tbl := am_tb 582 (by rfl)
theorem sm_Y_many : Jvm.Cond.static ({ cls := "IndependenceRowsModel", name := "many", desc := "(I)I" } : Jvm.MethodName) ∈ lw_tbl := am_tb 583 (by rfl)
theorem co_Y_many : Jvm.Cond.code ({ cls := "IndependenceRowsModel", name := "many", desc := "(I)I" } : Jvm.MethodName) prog_8_method_7_code (3 : Nat) (Option.some Jvm.ClassFile.FieldType.int) ∈ lw_tbl := am_tb 584 (by rfl)
theorem lk_L_39 : Jvm.Cond.methodLink "IndependenceRowsLaw" (39 : Nat) ({ cls := "IndependenceRowsModel", name := "hold", desc := "(II)I" } : Jvm.MethodName) ∈ lw_tbl := am_tb 585 (by rfl)
theorem im_Y_hold : Jvm.Cond.instanceMethod ({ cls := "IndependenceRowsModel", name := "hold", desc := "(II)I" } : Jvm.MethodName) ∈ lw_tbl := am_tb 586 (by rfl)
theorem se_Y_hold : Jvm.Cond.selects "IndependenceRowsModel" ({ cls := "IndependenceRowsModel", name := "hold", desc := "(II)I" } : Jvm.MethodName) ({ cls := "IndependenceRowsModel", name := "hold", desc := "(II)I" } : Jvm.MethodName) ∈ lw_tbl := am_tb 587 (by rfl)
theorem co_Y_hold : Jvm.Cond.code ({ cls := "IndependenceRowsModel", name := "hold", desc := "(II)I" } : Jvm.MethodName) prog_8_method_16_code (4 : Nat) (Option.some Jvm.ClassFile.FieldType.int) ∈ lw_tbl := am_tb 588 (by rfl)
theorem lk_L_43 : Jvm.Cond.methodLink "IndependenceRowsLaw" (43 : Nat) ({ cls := "IndependenceRowsModel", name := "told", desc := "(II)I" } : Jvm.MethodName) ∈ lw_tbl := am_tb 589 (by rfl)
theorem im_Y_told : Jvm.Cond.instanceMethod ({ cls := "IndependenceRowsModel", name := "told", desc := "(II)I" } : Jvm.MethodName) ∈ lw_tbl := am_tb 590 (by rfl)
theorem se_Y_told : Jvm.Cond.selects "IndependenceRowsModel" ({ cls := "IndependenceRowsModel", name := "told", desc := "(II)I" } : Jvm.MethodName) ({ cls := "IndependenceRowsModel", name := "told", desc := "(II)I" } : Jvm.MethodName) ∈ lw_tbl := am_tb 591 (by rfl)
theorem co_Y_told : Jvm.Cond.code ({ cls := "IndependenceRowsModel", name := "told", desc := "(II)I" } : Jvm.MethodName) prog_8_method_17_code (3 : Nat) (Option.some Jvm.ClassFile.FieldType.int) ∈ lw_tbl := am_tb 592 (by rfl)
theorem lk_L_47 : Jvm.Cond.methodLink "IndependenceRowsLaw" (47 : Nat) ({ cls := "IndependenceRowsModel", name := "of", desc := "(II)I" } : Jvm.MethodName) ∈ lw_tbl := am_tb 593 (by rfl)
theorem im_Y_of : Jvm.Cond.instanceMethod ({ cls := "IndependenceRowsModel", name := "of", desc := "(II)I" } : Jvm.MethodName) ∈ lw_tbl := am_tb 594 (by rfl)
theorem se_Y_of : Jvm.Cond.selects "IndependenceRowsModel" ({ cls := "IndependenceRowsModel", name := "of", desc := "(II)I" } : Jvm.MethodName) ({ cls := "IndependenceRowsModel", name := "of", desc := "(II)I" } : Jvm.MethodName) ∈ lw_tbl := am_tb 595 (by rfl)
theorem co_Y_of : Jvm.Cond.code ({ cls := "IndependenceRowsModel", name := "of", desc := "(II)I" } : Jvm.MethodName) prog_8_method_20_code (5 : Nat) (Option.some Jvm.ClassFile.FieldType.int) ∈ lw_tbl := am_tb 596 (by rfl)
theorem lk_Y_103 : Jvm.Cond.methodLink "IndependenceRowsModel" (103 : Nat) ({ cls := "IndependenceRowsModel", name := "countArcs", desc := "(I)V" } : Jvm.MethodName) ∈ lw_tbl := am_tb 597 (by rfl)
theorem im_Y_countArcs : Jvm.Cond.instanceMethod ({ cls := "IndependenceRowsModel", name := "countArcs", desc := "(I)V" } : Jvm.MethodName) ∈ lw_tbl := am_tb 599 (by rfl)
theorem co_Y_countArcs : Jvm.Cond.code ({ cls := "IndependenceRowsModel", name := "countArcs", desc := "(I)V" } : Jvm.MethodName) prog_8_method_18_code (4 : Nat) (Option.none : Option Jvm.ClassFile.FieldType) ∈ lw_tbl := am_tb 600 (by rfl)
theorem lk_Y_106 : Jvm.Cond.methodLink "IndependenceRowsModel" (106 : Nat) ({ cls := "IndependenceRowsModel", name := "belowOf", desc := "(I)I" } : Jvm.MethodName) ∈ lw_tbl := am_tb 601 (by rfl)
theorem im_Y_belowOf : Jvm.Cond.instanceMethod ({ cls := "IndependenceRowsModel", name := "belowOf", desc := "(I)I" } : Jvm.MethodName) ∈ lw_tbl := am_tb 603 (by rfl)
theorem co_Y_belowOf : Jvm.Cond.code ({ cls := "IndependenceRowsModel", name := "belowOf", desc := "(I)I" } : Jvm.MethodName) prog_8_method_19_code (2 : Nat) (Option.some Jvm.ClassFile.FieldType.int) ∈ lw_tbl := am_tb 604 (by rfl)
theorem lk_L_51 : Jvm.Cond.methodLink "IndependenceRowsLaw" (51 : Nat) ({ cls := "IndependenceRowsModel", name := "separated", desc := "(III)I" } : Jvm.MethodName) ∈ lw_tbl := am_tb 605 (by rfl)
theorem im_Y_separated : Jvm.Cond.instanceMethod ({ cls := "IndependenceRowsModel", name := "separated", desc := "(III)I" } : Jvm.MethodName) ∈ lw_tbl := am_tb 606 (by rfl)
theorem se_Y_separated : Jvm.Cond.selects "IndependenceRowsModel" ({ cls := "IndependenceRowsModel", name := "separated", desc := "(III)I" } : Jvm.MethodName) ({ cls := "IndependenceRowsModel", name := "separated", desc := "(III)I" } : Jvm.MethodName) ∈ lw_tbl := am_tb 607 (by rfl)
theorem co_Y_separated : Jvm.Cond.code ({ cls := "IndependenceRowsModel", name := "separated", desc := "(III)I" } : Jvm.MethodName) prog_8_method_22_code (4 : Nat) (Option.some Jvm.ClassFile.FieldType.int) ∈ lw_tbl := am_tb 608 (by rfl)
theorem lk_Y_109 : Jvm.Cond.methodLink "IndependenceRowsModel" (109 : Nat) ({ cls := "IndependenceRowsModel", name := "isAsked", desc := "(III)Z" } : Jvm.MethodName) ∈ lw_tbl := am_tb 609 (by rfl)
theorem im_Y_isAsked : Jvm.Cond.instanceMethod ({ cls := "IndependenceRowsModel", name := "isAsked", desc := "(III)Z" } : Jvm.MethodName) ∈ lw_tbl := am_tb 611 (by rfl)
theorem co_Y_isAsked : Jvm.Cond.code ({ cls := "IndependenceRowsModel", name := "isAsked", desc := "(III)Z" } : Jvm.MethodName) prog_8_method_6_code (4 : Nat) (Option.some Jvm.ClassFile.FieldType.boolean) ∈ lw_tbl := am_tb 612 (by rfl)
theorem lk_Y_81 : Jvm.Cond.methodLink "IndependenceRowsModel" (81 : Nat) ({ cls := "IndependenceRowsModel", name := "isSet", desc := "(I)Z" } : Jvm.MethodName) ∈ lw_tbl := am_tb 613 (by rfl)
theorem im_Y_isSet : Jvm.Cond.instanceMethod ({ cls := "IndependenceRowsModel", name := "isSet", desc := "(I)Z" } : Jvm.MethodName) ∈ lw_tbl := am_tb 615 (by rfl)
theorem co_Y_isSet : Jvm.Cond.code ({ cls := "IndependenceRowsModel", name := "isSet", desc := "(I)Z" } : Jvm.MethodName) prog_8_method_5_code (2 : Nat) (Option.some Jvm.ClassFile.FieldType.boolean) ∈ lw_tbl := am_tb 616 (by rfl)
theorem lk_Y_113 : Jvm.Cond.methodLink "IndependenceRowsModel" (113 : Nat) ({ cls := "IndependenceRowsModel", name := "isSeparated", desc := "([IIII)Z" } : Jvm.MethodName) ∈ lw_tbl := am_tb 617 (by rfl)
theorem im_Y_isSeparated : Jvm.Cond.instanceMethod ({ cls := "IndependenceRowsModel", name := "isSeparated", desc := "([IIII)Z" } : Jvm.MethodName) ∈ lw_tbl := am_tb 619 (by rfl)
theorem co_Y_isSeparated : Jvm.Cond.code ({ cls := "IndependenceRowsModel", name := "isSeparated", desc := "([IIII)Z" } : Jvm.MethodName) prog_8_method_21_code (9 : Nat) (Option.some Jvm.ClassFile.FieldType.boolean) ∈ lw_tbl := am_tb 620 (by rfl)
theorem lk_L_55 : Jvm.Cond.methodLink "IndependenceRowsLaw" (55 : Nat) ({ cls := "IndependenceRowsModel", name := "walk", desc := "(III)I" } : Jvm.MethodName) ∈ lw_tbl := am_tb 621 (by rfl)
theorem im_Y_walk : Jvm.Cond.instanceMethod ({ cls := "IndependenceRowsModel", name := "walk", desc := "(III)I" } : Jvm.MethodName) ∈ lw_tbl := am_tb 622 (by rfl)
theorem se_Y_walk : Jvm.Cond.selects "IndependenceRowsModel" ({ cls := "IndependenceRowsModel", name := "walk", desc := "(III)I" } : Jvm.MethodName) ({ cls := "IndependenceRowsModel", name := "walk", desc := "(III)I" } : Jvm.MethodName) ∈ lw_tbl := am_tb 623 (by rfl)
theorem co_Y_walk : Jvm.Cond.code ({ cls := "IndependenceRowsModel", name := "walk", desc := "(III)I" } : Jvm.MethodName) prog_8_method_23_code (10 : Nat) (Option.some Jvm.ClassFile.FieldType.int) ∈ lw_tbl := am_tb 624 (by rfl)
theorem lk_Y_117 : Jvm.Cond.methodLink "IndependenceRowsModel" (117 : Nat) ({ cls := "IndependenceRowsModel", name := "children2", desc := "(II)I" } : Jvm.MethodName) ∈ lw_tbl := am_tb 625 (by rfl)
theorem im_Y_children2 : Jvm.Cond.instanceMethod ({ cls := "IndependenceRowsModel", name := "children2", desc := "(II)I" } : Jvm.MethodName) ∈ lw_tbl := am_tb 627 (by rfl)
theorem co_Y_children2 : Jvm.Cond.code ({ cls := "IndependenceRowsModel", name := "children2", desc := "(II)I" } : Jvm.MethodName) prog_8_method_24_code (3 : Nat) (Option.some Jvm.ClassFile.FieldType.int) ∈ lw_tbl := am_tb 628 (by rfl)
theorem lk_L_60 : Jvm.Cond.methodLink "IndependenceRowsLaw" (60 : Nat) ({ cls := "IndependenceRowsModel", name := "weight", desc := "(II)J" } : Jvm.MethodName) ∈ lw_tbl := am_tb 629 (by rfl)
theorem im_Y_weight : Jvm.Cond.instanceMethod ({ cls := "IndependenceRowsModel", name := "weight", desc := "(II)J" } : Jvm.MethodName) ∈ lw_tbl := am_tb 630 (by rfl)
theorem se_Y_weight : Jvm.Cond.selects "IndependenceRowsModel" ({ cls := "IndependenceRowsModel", name := "weight", desc := "(II)J" } : Jvm.MethodName) ({ cls := "IndependenceRowsModel", name := "weight", desc := "(II)J" } : Jvm.MethodName) ∈ lw_tbl := am_tb 631 (by rfl)
theorem co_Y_weight : Jvm.Cond.code ({ cls := "IndependenceRowsModel", name := "weight", desc := "(II)J" } : Jvm.MethodName) prog_8_method_26_code (6 : Nat) (Option.some Jvm.ClassFile.FieldType.long) ∈ lw_tbl := am_tb 632 (by rfl)
theorem kk_Y_123 : Jvm.Cond.constantLong "IndependenceRowsModel" (123 : Nat) (-2 : Int64) ∈ lw_tbl := am_tb 633 (by rfl)
theorem lk_Y_125 : Jvm.Cond.methodLink "IndependenceRowsModel" (125 : Nat) ({ cls := "IndependenceRowsModel", name := "weigh", desc := "()V" } : Jvm.MethodName) ∈ lw_tbl := am_tb 634 (by rfl)
theorem im_Y_weigh : Jvm.Cond.instanceMethod ({ cls := "IndependenceRowsModel", name := "weigh", desc := "()V" } : Jvm.MethodName) ∈ lw_tbl := am_tb 636 (by rfl)
theorem co_Y_weigh : Jvm.Cond.code ({ cls := "IndependenceRowsModel", name := "weigh", desc := "()V" } : Jvm.MethodName) prog_8_method_25_code (9 : Nat) (Option.none : Option Jvm.ClassFile.FieldType) ∈ lw_tbl := am_tb 637 (by rfl)
theorem kk_Y_121 : Jvm.Cond.constantLong "IndependenceRowsModel" (121 : Nat) (8 : Int64) ∈ lw_tbl := am_tb 638 (by rfl)
theorem lk_L_64 : Jvm.Cond.methodLink "IndependenceRowsLaw" (64 : Nat) ({ cls := "IndependenceRowsModel", name := "independent", desc := "(III)I" } : Jvm.MethodName) ∈ lw_tbl := am_tb 639 (by rfl)
theorem im_Y_independent : Jvm.Cond.instanceMethod ({ cls := "IndependenceRowsModel", name := "independent", desc := "(III)I" } : Jvm.MethodName) ∈ lw_tbl := am_tb 640 (by rfl)
theorem se_Y_independent : Jvm.Cond.selects "IndependenceRowsModel" ({ cls := "IndependenceRowsModel", name := "independent", desc := "(III)I" } : Jvm.MethodName) ({ cls := "IndependenceRowsModel", name := "independent", desc := "(III)I" } : Jvm.MethodName) ∈ lw_tbl := am_tb 641 (by rfl)
theorem co_Y_independent : Jvm.Cond.code ({ cls := "IndependenceRowsModel", name := "independent", desc := "(III)I" } : Jvm.MethodName) prog_8_method_28_code (4 : Nat) (Option.some Jvm.ClassFile.FieldType.int) ∈ lw_tbl := am_tb 642 (by rfl)
theorem lk_Y_128 : Jvm.Cond.methodLink "IndependenceRowsModel" (128 : Nat) ({ cls := "IndependenceRowsModel", name := "hangs", desc := "(III)I" } : Jvm.MethodName) ∈ lw_tbl := am_tb 643 (by rfl)
theorem im_Y_hangs : Jvm.Cond.instanceMethod ({ cls := "IndependenceRowsModel", name := "hangs", desc := "(III)I" } : Jvm.MethodName) ∈ lw_tbl := am_tb 645 (by rfl)
theorem co_Y_hangs : Jvm.Cond.code ({ cls := "IndependenceRowsModel", name := "hangs", desc := "(III)I" } : Jvm.MethodName) prog_8_method_27_code (8 : Nat) (Option.some Jvm.ClassFile.FieldType.int) ∈ lw_tbl := am_tb 646 (by rfl)
theorem lk_L_68 : Jvm.Cond.methodLink "IndependenceRowsLaw" (68 : Nat) ({ cls := "IndependenceRowsModel", name := "differ", desc := "(III)I" } : Jvm.MethodName) ∈ lw_tbl := am_tb 647 (by rfl)
theorem im_Y_differ : Jvm.Cond.instanceMethod ({ cls := "IndependenceRowsModel", name := "differ", desc := "(III)I" } : Jvm.MethodName) ∈ lw_tbl := am_tb 648 (by rfl)
theorem se_Y_differ : Jvm.Cond.selects "IndependenceRowsModel" ({ cls := "IndependenceRowsModel", name := "differ", desc := "(III)I" } : Jvm.MethodName) ({ cls := "IndependenceRowsModel", name := "differ", desc := "(III)I" } : Jvm.MethodName) ∈ lw_tbl := am_tb 649 (by rfl)
theorem co_Y_differ : Jvm.Cond.code ({ cls := "IndependenceRowsModel", name := "differ", desc := "(III)I" } : Jvm.MethodName) prog_8_method_29_code (4 : Nat) (Option.some Jvm.ClassFile.FieldType.int) ∈ lw_tbl := am_tb 650 (by rfl)
theorem lk_L_73 : Jvm.Cond.methodLink "IndependenceRowsLaw" (73 : Nat) ({ cls := "IndependenceRowsModel", name := "blanket", desc := "(I)I" } : Jvm.MethodName) ∈ lw_tbl := am_tb 651 (by rfl)
theorem im_Y_blanket : Jvm.Cond.instanceMethod ({ cls := "IndependenceRowsModel", name := "blanket", desc := "(I)I" } : Jvm.MethodName) ∈ lw_tbl := am_tb 652 (by rfl)
theorem se_Y_blanket : Jvm.Cond.selects "IndependenceRowsModel" ({ cls := "IndependenceRowsModel", name := "blanket", desc := "(I)I" } : Jvm.MethodName) ({ cls := "IndependenceRowsModel", name := "blanket", desc := "(I)I" } : Jvm.MethodName) ∈ lw_tbl := am_tb 653 (by rfl)
theorem co_Y_blanket : Jvm.Cond.code ({ cls := "IndependenceRowsModel", name := "blanket", desc := "(I)I" } : Jvm.MethodName) prog_8_method_30_code (7 : Nat) (Option.some Jvm.ClassFile.FieldType.int) ∈ lw_tbl := am_tb 654 (by rfl)
theorem lk_L_77 : Jvm.Cond.methodLink "IndependenceRowsLaw" (77 : Nat) ({ cls := "IndependenceRowsModel", name := "least", desc := "(II)I" } : Jvm.MethodName) ∈ lw_tbl := am_tb 655 (by rfl)
theorem im_Y_least : Jvm.Cond.instanceMethod ({ cls := "IndependenceRowsModel", name := "least", desc := "(II)I" } : Jvm.MethodName) ∈ lw_tbl := am_tb 656 (by rfl)
theorem se_Y_least : Jvm.Cond.selects "IndependenceRowsModel" ({ cls := "IndependenceRowsModel", name := "least", desc := "(II)I" } : Jvm.MethodName) ({ cls := "IndependenceRowsModel", name := "least", desc := "(II)I" } : Jvm.MethodName) ∈ lw_tbl := am_tb 657 (by rfl)
theorem co_Y_least : Jvm.Cond.code ({ cls := "IndependenceRowsModel", name := "least", desc := "(II)I" } : Jvm.MethodName) prog_8_method_31_code (6 : Nat) (Option.some Jvm.ClassFile.FieldType.int) ∈ lw_tbl := am_tb 658 (by rfl)
theorem lk_L_81 : Jvm.Cond.methodLink "IndependenceRowsLaw" (81 : Nat) ({ cls := "IndependenceRowsModel", name := "enough", desc := "(III)I" } : Jvm.MethodName) ∈ lw_tbl := am_tb 659 (by rfl)
theorem im_Y_enough : Jvm.Cond.instanceMethod ({ cls := "IndependenceRowsModel", name := "enough", desc := "(III)I" } : Jvm.MethodName) ∈ lw_tbl := am_tb 660 (by rfl)
theorem se_Y_enough : Jvm.Cond.selects "IndependenceRowsModel" ({ cls := "IndependenceRowsModel", name := "enough", desc := "(III)I" } : Jvm.MethodName) ({ cls := "IndependenceRowsModel", name := "enough", desc := "(III)I" } : Jvm.MethodName) ∈ lw_tbl := am_tb 661 (by rfl)
theorem co_Y_enough : Jvm.Cond.code ({ cls := "IndependenceRowsModel", name := "enough", desc := "(III)I" } : Jvm.MethodName) prog_8_method_32_code (4 : Nat) (Option.some Jvm.ClassFile.FieldType.int) ∈ lw_tbl := am_tb 662 (by rfl)
theorem lk_L_85 : Jvm.Cond.methodLink "IndependenceRowsLaw" (85 : Nat) ({ cls := "IndependenceRowsModel", name := "keep", desc := "()I" } : Jvm.MethodName) ∈ lw_tbl := am_tb 663 (by rfl)
theorem im_Y_keep : Jvm.Cond.instanceMethod ({ cls := "IndependenceRowsModel", name := "keep", desc := "()I" } : Jvm.MethodName) ∈ lw_tbl := am_tb 664 (by rfl)
theorem se_Y_keep : Jvm.Cond.selects "IndependenceRowsModel" ({ cls := "IndependenceRowsModel", name := "keep", desc := "()I" } : Jvm.MethodName) ({ cls := "IndependenceRowsModel", name := "keep", desc := "()I" } : Jvm.MethodName) ∈ lw_tbl := am_tb 665 (by rfl)
theorem co_Y_keep : Jvm.Cond.code ({ cls := "IndependenceRowsModel", name := "keep", desc := "()I" } : Jvm.MethodName) prog_8_method_33_code (2 : Nat) (Option.some Jvm.ClassFile.FieldType.int) ∈ lw_tbl := am_tb 666 (by rfl)
theorem lk_L_89 : Jvm.Cond.methodLink "IndependenceRowsLaw" (89 : Nat) ({ cls := "IndependenceRowsModel", name := "alike", desc := "()I" } : Jvm.MethodName) ∈ lw_tbl := am_tb 667 (by rfl)
theorem im_Y_alike : Jvm.Cond.instanceMethod ({ cls := "IndependenceRowsModel", name := "alike", desc := "()I" } : Jvm.MethodName) ∈ lw_tbl := am_tb 668 (by rfl)
theorem se_Y_alike : Jvm.Cond.selects "IndependenceRowsModel" ({ cls := "IndependenceRowsModel", name := "alike", desc := "()I" } : Jvm.MethodName) ({ cls := "IndependenceRowsModel", name := "alike", desc := "()I" } : Jvm.MethodName) ∈ lw_tbl := am_tb 669 (by rfl)
theorem co_Y_alike : Jvm.Cond.code ({ cls := "IndependenceRowsModel", name := "alike", desc := "()I" } : Jvm.MethodName) prog_8_method_36_code (1 : Nat) (Option.some Jvm.ClassFile.FieldType.int) ∈ lw_tbl := am_tb 670 (by rfl)
theorem lk_Y_135 : Jvm.Cond.methodLink "IndependenceRowsModel" (135 : Nat) ({ cls := "IndependenceRowsModel", name := "learn", desc := "()V" } : Jvm.MethodName) ∈ lw_tbl := am_tb 671 (by rfl)
theorem im_Y_learn : Jvm.Cond.instanceMethod ({ cls := "IndependenceRowsModel", name := "learn", desc := "()V" } : Jvm.MethodName) ∈ lw_tbl := am_tb 673 (by rfl)
theorem co_Y_learn : Jvm.Cond.code ({ cls := "IndependenceRowsModel", name := "learn", desc := "()V" } : Jvm.MethodName) prog_8_method_34_code (5 : Nat) (Option.none : Option Jvm.ClassFile.FieldType) ∈ lw_tbl := am_tb 674 (by rfl)
theorem lk_Y_138 : Jvm.Cond.methodLink "IndependenceRowsModel" (138 : Nat) ({ cls := "IndependenceRowsModel", name := "tellsAlike", desc := "([I)Z" } : Jvm.MethodName) ∈ lw_tbl := am_tb 675 (by rfl)
theorem im_Y_tellsAlike : Jvm.Cond.instanceMethod ({ cls := "IndependenceRowsModel", name := "tellsAlike", desc := "([I)Z" } : Jvm.MethodName) ∈ lw_tbl := am_tb 677 (by rfl)
theorem co_Y_tellsAlike : Jvm.Cond.code ({ cls := "IndependenceRowsModel", name := "tellsAlike", desc := "([I)Z" } : Jvm.MethodName) prog_8_method_35_code (6 : Nat) (Option.some Jvm.ClassFile.FieldType.boolean) ∈ lw_tbl := am_tb 678 (by rfl)
theorem lk_L_93 : Jvm.Cond.methodLink "IndependenceRowsLaw" (93 : Nat) ({ cls := "IndependenceRowsModel", name := "settled", desc := "(II)I" } : Jvm.MethodName) ∈ lw_tbl := am_tb 679 (by rfl)
theorem im_Y_settled : Jvm.Cond.instanceMethod ({ cls := "IndependenceRowsModel", name := "settled", desc := "(II)I" } : Jvm.MethodName) ∈ lw_tbl := am_tb 680 (by rfl)
theorem se_Y_settled : Jvm.Cond.selects "IndependenceRowsModel" ({ cls := "IndependenceRowsModel", name := "settled", desc := "(II)I" } : Jvm.MethodName) ({ cls := "IndependenceRowsModel", name := "settled", desc := "(II)I" } : Jvm.MethodName) ∈ lw_tbl := am_tb 681 (by rfl)
theorem co_Y_settled : Jvm.Cond.code ({ cls := "IndependenceRowsModel", name := "settled", desc := "(II)I" } : Jvm.MethodName) prog_8_method_40_code (6 : Nat) (Option.some Jvm.ClassFile.FieldType.int) ∈ lw_tbl := am_tb 682 (by rfl)
theorem lk_Y_156 : Jvm.Cond.methodLink "IndependenceRowsModel" (156 : Nat) ({ cls := "IndependenceRowsModel", name := "countFamily", desc := "()V" } : Jvm.MethodName) ∈ lw_tbl := am_tb 683 (by rfl)
theorem im_Y_countFamily : Jvm.Cond.instanceMethod ({ cls := "IndependenceRowsModel", name := "countFamily", desc := "()V" } : Jvm.MethodName) ∈ lw_tbl := am_tb 685 (by rfl)
theorem co_Y_countFamily : Jvm.Cond.code ({ cls := "IndependenceRowsModel", name := "countFamily", desc := "()V" } : Jvm.MethodName) prog_8_method_39_code (6 : Nat) (Option.none : Option Jvm.ClassFile.FieldType) ∈ lw_tbl := am_tb 686 (by rfl)
theorem lk_Y_142 : Jvm.Cond.methodLink "IndependenceRowsModel" (142 : Nat) ({ cls := "IndependenceRowsModel", name := "listArcs", desc := "()I" } : Jvm.MethodName) ∈ lw_tbl := am_tb 687 (by rfl)
theorem im_Y_listArcs : Jvm.Cond.instanceMethod ({ cls := "IndependenceRowsModel", name := "listArcs", desc := "()I" } : Jvm.MethodName) ∈ lw_tbl := am_tb 689 (by rfl)
theorem co_Y_listArcs : Jvm.Cond.code ({ cls := "IndependenceRowsModel", name := "listArcs", desc := "()I" } : Jvm.MethodName) prog_8_method_37_code (4 : Nat) (Option.some Jvm.ClassFile.FieldType.int) ∈ lw_tbl := am_tb 690 (by rfl)
theorem lk_Y_152 : Jvm.Cond.methodLink "IndependenceRowsModel" (152 : Nat) ({ cls := "IndependenceRowsModel", name := "hasNoRing", desc := "()Z" } : Jvm.MethodName) ∈ lw_tbl := am_tb 691 (by rfl)
theorem im_Y_hasNoRing : Jvm.Cond.instanceMethod ({ cls := "IndependenceRowsModel", name := "hasNoRing", desc := "()Z" } : Jvm.MethodName) ∈ lw_tbl := am_tb 693 (by rfl)
theorem co_Y_hasNoRing : Jvm.Cond.code ({ cls := "IndependenceRowsModel", name := "hasNoRing", desc := "()Z" } : Jvm.MethodName) prog_8_method_38_code (4 : Nat) (Option.some Jvm.ClassFile.FieldType.boolean) ∈ lw_tbl := am_tb 694 (by rfl)
theorem lk_L_97 : Jvm.Cond.methodLink "IndependenceRowsLaw" (97 : Nat) ({ cls := "IndependenceRowsModel", name := "family", desc := "()I" } : Jvm.MethodName) ∈ lw_tbl := am_tb 695 (by rfl)
theorem im_Y_family : Jvm.Cond.instanceMethod ({ cls := "IndependenceRowsModel", name := "family", desc := "()I" } : Jvm.MethodName) ∈ lw_tbl := am_tb 696 (by rfl)
theorem se_Y_family : Jvm.Cond.selects "IndependenceRowsModel" ({ cls := "IndependenceRowsModel", name := "family", desc := "()I" } : Jvm.MethodName) ({ cls := "IndependenceRowsModel", name := "family", desc := "()I" } : Jvm.MethodName) ∈ lw_tbl := am_tb 697 (by rfl)
theorem co_Y_family : Jvm.Cond.code ({ cls := "IndependenceRowsModel", name := "family", desc := "()I" } : Jvm.MethodName) prog_8_method_41_code (1 : Nat) (Option.some Jvm.ClassFile.FieldType.int) ∈ lw_tbl := am_tb 698 (by rfl)
theorem lk_L_101 : Jvm.Cond.methodLink "IndependenceRowsLaw" (101 : Nat) ({ cls := "IndependenceRowsModel", name := "count", desc := "(I)I" } : Jvm.MethodName) ∈ lw_tbl := am_tb 699 (by rfl)
theorem im_Y_count : Jvm.Cond.instanceMethod ({ cls := "IndependenceRowsModel", name := "count", desc := "(I)I" } : Jvm.MethodName) ∈ lw_tbl := am_tb 700 (by rfl)
theorem se_Y_count : Jvm.Cond.selects "IndependenceRowsModel" ({ cls := "IndependenceRowsModel", name := "count", desc := "(I)I" } : Jvm.MethodName) ({ cls := "IndependenceRowsModel", name := "count", desc := "(I)I" } : Jvm.MethodName) ∈ lw_tbl := am_tb 701 (by rfl)
theorem co_Y_count : Jvm.Cond.code ({ cls := "IndependenceRowsModel", name := "count", desc := "(I)I" } : Jvm.MethodName) prog_8_method_42_code (4 : Nat) (Option.some Jvm.ClassFile.FieldType.int) ∈ lw_tbl := am_tb 702 (by rfl)
theorem se_G_empty : Cond.selects "IndependenceRows$Graph" ⟨"IndependenceRows$Graph", "empty", "()V"⟩ ⟨"IndependenceRows$Graph", "empty", "()V"⟩ ∈ lw_tbl := am_se (⟨"IndependenceRows$Graph", "empty", "()V"⟩, 4) (by decide +kernel)
theorem se_T_releaseAll : Cond.selects "IndependenceRows$Tables" ⟨"IndependenceRows$Tables", "releaseAll", "()V"⟩ ⟨"IndependenceRows$Tables", "releaseAll", "()V"⟩ ∈ lw_tbl := am_se (⟨"IndependenceRows$Tables", "releaseAll", "()V"⟩, 3) (by decide +kernel)
theorem se_T_startRows : Cond.selects "IndependenceRows$Tables" ⟨"IndependenceRows$Tables", "startRows", "(I)V"⟩ ⟨"IndependenceRows$Tables", "startRows", "(I)V"⟩ ∈ lw_tbl := am_se (⟨"IndependenceRows$Tables", "startRows", "(I)V"⟩, 3) (by decide +kernel)
theorem se_X_isPair : Cond.selects "IndependenceRows" ⟨"IndependenceRows", "isPair", "(II)Z"⟩ ⟨"IndependenceRows", "isPair", "(II)Z"⟩ ∈ lw_tbl := am_se (⟨"IndependenceRows", "isPair", "(II)Z"⟩, 10) (by decide +kernel)
theorem se_X_isPlace : Cond.selects "IndependenceRows" ⟨"IndependenceRows", "isPlace", "(I)Z"⟩ ⟨"IndependenceRows", "isPlace", "(I)Z"⟩ ∈ lw_tbl := am_se (⟨"IndependenceRows", "isPlace", "(I)Z"⟩, 10) (by decide +kernel)
theorem se_G_neighbours : Cond.selects "IndependenceRows$Graph" ⟨"IndependenceRows$Graph", "neighbours", "(I)I"⟩ ⟨"IndependenceRows$Graph", "neighbours", "(I)I"⟩ ∈ lw_tbl := am_se (⟨"IndependenceRows$Graph", "neighbours", "(I)I"⟩, 4) (by decide +kernel)
theorem se_G_join : Cond.selects "IndependenceRows$Graph" ⟨"IndependenceRows$Graph", "join", "(II)V"⟩ ⟨"IndependenceRows$Graph", "join", "(II)V"⟩ ∈ lw_tbl := am_se (⟨"IndependenceRows$Graph", "join", "(II)V"⟩, 4) (by decide +kernel)
theorem se_G_part : Cond.selects "IndependenceRows$Graph" ⟨"IndependenceRows$Graph", "part", "(II)V"⟩ ⟨"IndependenceRows$Graph", "part", "(II)V"⟩ ∈ lw_tbl := am_se (⟨"IndependenceRows$Graph", "part", "(II)V"⟩, 4) (by decide +kernel)
theorem se_X_isRow : Cond.selects "IndependenceRows" ⟨"IndependenceRows", "isRow", "(II)Z"⟩ ⟨"IndependenceRows", "isRow", "(II)Z"⟩ ∈ lw_tbl := am_se (⟨"IndependenceRows", "isRow", "(II)Z"⟩, 10) (by decide +kernel)
theorem se_G_rows : Cond.selects "IndependenceRows$Graph" ⟨"IndependenceRows$Graph", "rows", "(I)I"⟩ ⟨"IndependenceRows$Graph", "rows", "(I)I"⟩ ∈ lw_tbl := am_se (⟨"IndependenceRows$Graph", "rows", "(I)I"⟩, 4) (by decide +kernel)
theorem se_T_heldAt : Cond.selects "IndependenceRows$Tables" ⟨"IndependenceRows$Tables", "heldAt", "(I)I"⟩ ⟨"IndependenceRows$Tables", "heldAt", "(I)I"⟩ ∈ lw_tbl := am_se (⟨"IndependenceRows$Tables", "heldAt", "(I)I"⟩, 3) (by decide +kernel)
theorem se_T_setHeld : Cond.selects "IndependenceRows$Tables" ⟨"IndependenceRows$Tables", "setHeld", "(II)V"⟩ ⟨"IndependenceRows$Tables", "setHeld", "(II)V"⟩ ∈ lw_tbl := am_se (⟨"IndependenceRows$Tables", "setHeld", "(II)V"⟩, 3) (by decide +kernel)
theorem se_V_lookAt : Cond.selects "IndependenceRows$Walks" ⟨"IndependenceRows$Walks", "lookAt", "(LIndependenceRows$Graph;II)V"⟩ ⟨"IndependenceRows$Walks", "lookAt", "(LIndependenceRows$Graph;II)V"⟩ ∈ lw_tbl := am_se (⟨"IndependenceRows$Walks", "lookAt", "(LIndependenceRows$Graph;II)V"⟩, 8) (by decide +kernel)
theorem se_V_below : Cond.selects "IndependenceRows$Walks" ⟨"IndependenceRows$Walks", "below", "(I)I"⟩ ⟨"IndependenceRows$Walks", "below", "(I)I"⟩ ∈ lw_tbl := am_se (⟨"IndependenceRows$Walks", "below", "(I)I"⟩, 8) (by decide +kernel)
theorem se_X_isQuestion : Cond.selects "IndependenceRows" ⟨"IndependenceRows", "isQuestion", "(III)Z"⟩ ⟨"IndependenceRows", "isQuestion", "(III)Z"⟩ ∈ lw_tbl := am_se (⟨"IndependenceRows", "isQuestion", "(III)Z"⟩, 10) (by decide +kernel)
theorem se_X_isSet : Cond.selects "IndependenceRows" ⟨"IndependenceRows", "isSet", "(I)Z"⟩ ⟨"IndependenceRows", "isSet", "(I)Z"⟩ ∈ lw_tbl := am_se (⟨"IndependenceRows", "isSet", "(I)Z"⟩, 10) (by decide +kernel)
theorem se_G_everyPlace : Cond.selects "IndependenceRows$Graph" ⟨"IndependenceRows$Graph", "everyPlace", "()I"⟩ ⟨"IndependenceRows$Graph", "everyPlace", "()I"⟩ ∈ lw_tbl := am_se (⟨"IndependenceRows$Graph", "everyPlace", "()I"⟩, 4) (by decide +kernel)
theorem se_V_shortest : Cond.selects "IndependenceRows$Walks" ⟨"IndependenceRows$Walks", "shortest", "(III)I"⟩ ⟨"IndependenceRows$Walks", "shortest", "(III)I"⟩ ∈ lw_tbl := am_se (⟨"IndependenceRows$Walks", "shortest", "(III)I"⟩, 8) (by decide +kernel)
theorem se_V_start : Cond.selects "IndependenceRows$Walks" ⟨"IndependenceRows$Walks", "start", "(II)V"⟩ ⟨"IndependenceRows$Walks", "start", "(II)V"⟩ ∈ lw_tbl := am_se (⟨"IndependenceRows$Walks", "start", "(II)V"⟩, 8) (by decide +kernel)
theorem se_V_step : Cond.selects "IndependenceRows$Walks" ⟨"IndependenceRows$Walks", "step", "()V"⟩ ⟨"IndependenceRows$Walks", "step", "()V"⟩ ∈ lw_tbl := am_se (⟨"IndependenceRows$Walks", "step", "()V"⟩, 8) (by decide +kernel)
theorem se_T_product : Cond.selects "IndependenceRows$Tables" ⟨"IndependenceRows$Tables", "product", "(LIndependenceRows$Graph;I)J"⟩ ⟨"IndependenceRows$Tables", "product", "(LIndependenceRows$Graph;I)J"⟩ ∈ lw_tbl := am_se (⟨"IndependenceRows$Tables", "product", "(LIndependenceRows$Graph;I)J"⟩, 3) (by decide +kernel)
theorem se_T_factor : Cond.selects "IndependenceRows$Tables" ⟨"IndependenceRows$Tables", "factor", "(LIndependenceRows$Graph;II)I"⟩ ⟨"IndependenceRows$Tables", "factor", "(LIndependenceRows$Graph;II)I"⟩ ∈ lw_tbl := am_se (⟨"IndependenceRows$Tables", "factor", "(LIndependenceRows$Graph;II)I"⟩, 3) (by decide +kernel)
theorem se_X_leastDifference : Cond.selects "IndependenceRows" ⟨"IndependenceRows", "leastDifference", "(III)I"⟩ ⟨"IndependenceRows", "leastDifference", "(III)I"⟩ ∈ lw_tbl := am_se (⟨"IndependenceRows", "leastDifference", "(III)I"⟩, 10) (by decide +kernel)
theorem se_N_start : Cond.selects "IndependenceRows$Margin" ⟨"IndependenceRows$Margin", "start", "(I)V"⟩ ⟨"IndependenceRows$Margin", "start", "(I)V"⟩ ∈ lw_tbl := am_se (⟨"IndependenceRows$Margin", "start", "(I)V"⟩, 2) (by decide +kernel)
theorem se_N_add : Cond.selects "IndependenceRows$Margin" ⟨"IndependenceRows$Margin", "add", "(IJ)V"⟩ ⟨"IndependenceRows$Margin", "add", "(IJ)V"⟩ ∈ lw_tbl := am_se (⟨"IndependenceRows$Margin", "add", "(IJ)V"⟩, 2) (by decide +kernel)
theorem se_N_sum : Cond.selects "IndependenceRows$Margin" ⟨"IndependenceRows$Margin", "sum", "(I)J"⟩ ⟨"IndependenceRows$Margin", "sum", "(I)J"⟩ ∈ lw_tbl := am_se (⟨"IndependenceRows$Margin", "sum", "(I)J"⟩, 2) (by decide +kernel)
theorem se_X_fewest : Cond.selects "IndependenceRows" ⟨"IndependenceRows", "fewest", "(III)I"⟩ ⟨"IndependenceRows", "fewest", "(III)I"⟩ ∈ lw_tbl := am_se (⟨"IndependenceRows", "fewest", "(III)I"⟩, 10) (by decide +kernel)
theorem se_V_reached : Cond.selects "IndependenceRows$Walks" ⟨"IndependenceRows$Walks", "reached", "(II)I"⟩ ⟨"IndependenceRows$Walks", "reached", "(II)I"⟩ ∈ lw_tbl := am_se (⟨"IndependenceRows$Walks", "reached", "(II)I"⟩, 8) (by decide +kernel)
theorem se_G_copy : Cond.selects "IndependenceRows$Graph" ⟨"IndependenceRows$Graph", "copy", "(LIndependenceRows$Graph;)V"⟩ ⟨"IndependenceRows$Graph", "copy", "(LIndependenceRows$Graph;)V"⟩ ∈ lw_tbl := am_se (⟨"IndependenceRows$Graph", "copy", "(LIndependenceRows$Graph;)V"⟩, 4) (by decide +kernel)
theorem se_G_tellsTheSameAs : Cond.selects "IndependenceRows$Graph" ⟨"IndependenceRows$Graph", "tellsTheSameAs", "(LIndependenceRows$Graph;)Z"⟩ ⟨"IndependenceRows$Graph", "tellsTheSameAs", "(LIndependenceRows$Graph;)Z"⟩ ∈ lw_tbl := am_se (⟨"IndependenceRows$Graph", "tellsTheSameAs", "(LIndependenceRows$Graph;)Z"⟩, 4) (by decide +kernel)
theorem se_G_strangers : Cond.selects "IndependenceRows$Graph" ⟨"IndependenceRows$Graph", "strangers", "(II)I"⟩ ⟨"IndependenceRows$Graph", "strangers", "(II)I"⟩ ∈ lw_tbl := am_se (⟨"IndependenceRows$Graph", "strangers", "(II)I"⟩, 4) (by decide +kernel)
theorem se_K_explore : Cond.selects "IndependenceRows$Kin" ⟨"IndependenceRows$Kin", "explore", "(LIndependenceRows$Graph;)V"⟩ ⟨"IndependenceRows$Kin", "explore", "(LIndependenceRows$Graph;)V"⟩ ∈ lw_tbl := am_se (⟨"IndependenceRows$Kin", "explore", "(LIndependenceRows$Graph;)V"⟩, 7) (by decide +kernel)
theorem se_K_listArcs : Cond.selects "IndependenceRows$Kin" ⟨"IndependenceRows$Kin", "listArcs", "()V"⟩ ⟨"IndependenceRows$Kin", "listArcs", "()V"⟩ ∈ lw_tbl := am_se (⟨"IndependenceRows$Kin", "listArcs", "()V"⟩, 7) (by decide +kernel)
theorem se_K_direct : Cond.selects "IndependenceRows$Kin" ⟨"IndependenceRows$Kin", "direct", "(II)V"⟩ ⟨"IndependenceRows$Kin", "direct", "(II)V"⟩ ∈ lw_tbl := am_se (⟨"IndependenceRows$Kin", "direct", "(II)V"⟩, 7) (by decide +kernel)
theorem se_K_directOne : Cond.selects "IndependenceRows$Kin" ⟨"IndependenceRows$Kin", "directOne", "(IIII)V"⟩ ⟨"IndependenceRows$Kin", "directOne", "(IIII)V"⟩ ∈ lw_tbl := am_se (⟨"IndependenceRows$Kin", "directOne", "(IIII)V"⟩, 7) (by decide +kernel)
theorem se_K_meetsAsFirst : Cond.selects "IndependenceRows$Kin" ⟨"IndependenceRows$Kin", "meetsAsFirst", "(II)Z"⟩ ⟨"IndependenceRows$Kin", "meetsAsFirst", "(II)Z"⟩ ∈ lw_tbl := am_se (⟨"IndependenceRows$Kin", "meetsAsFirst", "(II)Z"⟩, 7) (by decide +kernel)
theorem se_K_isTurned : Cond.selects "IndependenceRows$Kin" ⟨"IndependenceRows$Kin", "isTurned", "(II)Z"⟩ ⟨"IndependenceRows$Kin", "isTurned", "(II)Z"⟩ ∈ lw_tbl := am_se (⟨"IndependenceRows$Kin", "isTurned", "(II)Z"⟩, 7) (by decide +kernel)
theorem se_Y_begin : Cond.selects "IndependenceRowsModel" ⟨"IndependenceRowsModel", "begin", "()V"⟩ ⟨"IndependenceRowsModel", "begin", "()V"⟩ ∈ lw_tbl := am_se (⟨"IndependenceRowsModel", "begin", "()V"⟩, 23) (by decide +kernel)
theorem se_Y_evenOdds : Cond.selects "IndependenceRowsModel" ⟨"IndependenceRowsModel", "evenOdds", "(I)V"⟩ ⟨"IndependenceRowsModel", "evenOdds", "(I)V"⟩ ∈ lw_tbl := am_se (⟨"IndependenceRowsModel", "evenOdds", "(I)V"⟩, 23) (by decide +kernel)
theorem se_Y_isPlace : Cond.selects "IndependenceRowsModel" ⟨"IndependenceRowsModel", "isPlace", "(I)Z"⟩ ⟨"IndependenceRowsModel", "isPlace", "(I)Z"⟩ ∈ lw_tbl := am_se (⟨"IndependenceRowsModel", "isPlace", "(I)Z"⟩, 23) (by decide +kernel)
theorem se_Y_aboveOf : Cond.selects "IndependenceRowsModel" ⟨"IndependenceRowsModel", "aboveOf", "([II)I"⟩ ⟨"IndependenceRowsModel", "aboveOf", "([II)I"⟩ ∈ lw_tbl := am_se (⟨"IndependenceRowsModel", "aboveOf", "([II)I"⟩, 23) (by decide +kernel)
theorem se_Y_isArc : Cond.selects "IndependenceRowsModel" ⟨"IndependenceRowsModel", "isArc", "(II)Z"⟩ ⟨"IndependenceRowsModel", "isArc", "(II)Z"⟩ ∈ lw_tbl := am_se (⟨"IndependenceRowsModel", "isArc", "(II)Z"⟩, 23) (by decide +kernel)
theorem se_Y_isRow : Cond.selects "IndependenceRowsModel" ⟨"IndependenceRowsModel", "isRow", "(II)Z"⟩ ⟨"IndependenceRowsModel", "isRow", "(II)Z"⟩ ∈ lw_tbl := am_se (⟨"IndependenceRowsModel", "isRow", "(II)Z"⟩, 23) (by decide +kernel)
theorem se_Y_countArcs : Cond.selects "IndependenceRowsModel" ⟨"IndependenceRowsModel", "countArcs", "(I)V"⟩ ⟨"IndependenceRowsModel", "countArcs", "(I)V"⟩ ∈ lw_tbl := am_se (⟨"IndependenceRowsModel", "countArcs", "(I)V"⟩, 23) (by decide +kernel)
theorem se_Y_belowOf : Cond.selects "IndependenceRowsModel" ⟨"IndependenceRowsModel", "belowOf", "(I)I"⟩ ⟨"IndependenceRowsModel", "belowOf", "(I)I"⟩ ∈ lw_tbl := am_se (⟨"IndependenceRowsModel", "belowOf", "(I)I"⟩, 23) (by decide +kernel)
theorem se_Y_isAsked : Cond.selects "IndependenceRowsModel" ⟨"IndependenceRowsModel", "isAsked", "(III)Z"⟩ ⟨"IndependenceRowsModel", "isAsked", "(III)Z"⟩ ∈ lw_tbl := am_se (⟨"IndependenceRowsModel", "isAsked", "(III)Z"⟩, 23) (by decide +kernel)
theorem se_Y_isSet : Cond.selects "IndependenceRowsModel" ⟨"IndependenceRowsModel", "isSet", "(I)Z"⟩ ⟨"IndependenceRowsModel", "isSet", "(I)Z"⟩ ∈ lw_tbl := am_se (⟨"IndependenceRowsModel", "isSet", "(I)Z"⟩, 23) (by decide +kernel)
theorem se_Y_isSeparated : Cond.selects "IndependenceRowsModel" ⟨"IndependenceRowsModel", "isSeparated", "([IIII)Z"⟩ ⟨"IndependenceRowsModel", "isSeparated", "([IIII)Z"⟩ ∈ lw_tbl := am_se (⟨"IndependenceRowsModel", "isSeparated", "([IIII)Z"⟩, 23) (by decide +kernel)
theorem se_Y_children2 : Cond.selects "IndependenceRowsModel" ⟨"IndependenceRowsModel", "children2", "(II)I"⟩ ⟨"IndependenceRowsModel", "children2", "(II)I"⟩ ∈ lw_tbl := am_se (⟨"IndependenceRowsModel", "children2", "(II)I"⟩, 23) (by decide +kernel)
theorem se_Y_weigh : Cond.selects "IndependenceRowsModel" ⟨"IndependenceRowsModel", "weigh", "()V"⟩ ⟨"IndependenceRowsModel", "weigh", "()V"⟩ ∈ lw_tbl := am_se (⟨"IndependenceRowsModel", "weigh", "()V"⟩, 23) (by decide +kernel)
theorem se_Y_hangs : Cond.selects "IndependenceRowsModel" ⟨"IndependenceRowsModel", "hangs", "(III)I"⟩ ⟨"IndependenceRowsModel", "hangs", "(III)I"⟩ ∈ lw_tbl := am_se (⟨"IndependenceRowsModel", "hangs", "(III)I"⟩, 23) (by decide +kernel)
theorem se_Y_learn : Cond.selects "IndependenceRowsModel" ⟨"IndependenceRowsModel", "learn", "()V"⟩ ⟨"IndependenceRowsModel", "learn", "()V"⟩ ∈ lw_tbl := am_se (⟨"IndependenceRowsModel", "learn", "()V"⟩, 23) (by decide +kernel)
theorem se_Y_tellsAlike : Cond.selects "IndependenceRowsModel" ⟨"IndependenceRowsModel", "tellsAlike", "([I)Z"⟩ ⟨"IndependenceRowsModel", "tellsAlike", "([I)Z"⟩ ∈ lw_tbl := am_se (⟨"IndependenceRowsModel", "tellsAlike", "([I)Z"⟩, 23) (by decide +kernel)
theorem se_Y_countFamily : Cond.selects "IndependenceRowsModel" ⟨"IndependenceRowsModel", "countFamily", "()V"⟩ ⟨"IndependenceRowsModel", "countFamily", "()V"⟩ ∈ lw_tbl := am_se (⟨"IndependenceRowsModel", "countFamily", "()V"⟩, 23) (by decide +kernel)
theorem se_Y_listArcs : Cond.selects "IndependenceRowsModel" ⟨"IndependenceRowsModel", "listArcs", "()I"⟩ ⟨"IndependenceRowsModel", "listArcs", "()I"⟩ ∈ lw_tbl := am_se (⟨"IndependenceRowsModel", "listArcs", "()I"⟩, 23) (by decide +kernel)
theorem se_Y_hasNoRing : Cond.selects "IndependenceRowsModel" ⟨"IndependenceRowsModel", "hasNoRing", "()Z"⟩ ⟨"IndependenceRowsModel", "hasNoRing", "()Z"⟩ ∈ lw_tbl := am_se (⟨"IndependenceRowsModel", "hasNoRing", "()Z"⟩, 23) (by decide +kernel)
end
