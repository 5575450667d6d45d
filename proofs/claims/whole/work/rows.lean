section
-- ===== PART A: goes FIRST, ahead of the names: the tables' words, and 'selects' of the private methods out of them =====
/-- a private method of a class that the tables say can be made, by its rows of tables_1 -/
def lw_okq (q : MethodName × Nat) : Prop := (q.1.cls ≠ "java/lang/invoke/MethodHandle" ∧ q.1.cls ≠ "java/lang/invoke/VarHandle") ∧ Cond.instantiable q.1.cls q.2 ∈ tables_1 ∧ Cond.privateMethod q.1 ∈ tables_1 ∧ Cond.instanceMethod q.1 ∈ tables_1
theorem lw_p0 : lw_okq (⟨"IndependenceRows$Graph", "empty", "()V"⟩, 4) := ⟨⟨by decide +kernel, by decide +kernel⟩, List.mem_of_getElem? (i := 20) (by decide +kernel), List.mem_of_getElem? (i := 182) (by decide +kernel), List.mem_of_getElem? (i := 183) (by decide +kernel)⟩
theorem lw_p1 : lw_okq (⟨"IndependenceRows$Tables", "releaseAll", "()V"⟩, 3) := ⟨⟨by decide +kernel, by decide +kernel⟩, List.mem_of_getElem? (i := 50) (by decide +kernel), List.mem_of_getElem? (i := 189) (by decide +kernel), List.mem_of_getElem? (i := 190) (by decide +kernel)⟩
theorem lw_p2 : lw_okq (⟨"IndependenceRows$Tables", "startRows", "(I)V"⟩, 3) := ⟨⟨by decide +kernel, by decide +kernel⟩, List.mem_of_getElem? (i := 50) (by decide +kernel), List.mem_of_getElem? (i := 197) (by decide +kernel), List.mem_of_getElem? (i := 198) (by decide +kernel)⟩
theorem lw_p3 : lw_okq (⟨"IndependenceRows", "isPair", "(II)Z"⟩, 10) := ⟨⟨by decide +kernel, by decide +kernel⟩, List.mem_of_getElem? (i := 12) (by decide +kernel), List.mem_of_getElem? (i := 206) (by decide +kernel), List.mem_of_getElem? (i := 207) (by decide +kernel)⟩
theorem lw_p4 : lw_okq (⟨"IndependenceRows", "isPlace", "(I)Z"⟩, 10) := ⟨⟨by decide +kernel, by decide +kernel⟩, List.mem_of_getElem? (i := 12) (by decide +kernel), List.mem_of_getElem? (i := 210) (by decide +kernel), List.mem_of_getElem? (i := 211) (by decide +kernel)⟩
theorem lw_p5 : lw_okq (⟨"IndependenceRows$Graph", "neighbours", "(I)I"⟩, 4) := ⟨⟨by decide +kernel, by decide +kernel⟩, List.mem_of_getElem? (i := 20) (by decide +kernel), List.mem_of_getElem? (i := 214) (by decide +kernel), List.mem_of_getElem? (i := 215) (by decide +kernel)⟩
theorem lw_p6 : lw_okq (⟨"IndependenceRows$Graph", "join", "(II)V"⟩, 4) := ⟨⟨by decide +kernel, by decide +kernel⟩, List.mem_of_getElem? (i := 20) (by decide +kernel), List.mem_of_getElem? (i := 230) (by decide +kernel), List.mem_of_getElem? (i := 231) (by decide +kernel)⟩
theorem lw_p7 : lw_okq (⟨"IndependenceRows$Graph", "part", "(II)V"⟩, 4) := ⟨⟨by decide +kernel, by decide +kernel⟩, List.mem_of_getElem? (i := 20) (by decide +kernel), List.mem_of_getElem? (i := 239) (by decide +kernel), List.mem_of_getElem? (i := 240) (by decide +kernel)⟩
theorem lw_p8 : lw_okq (⟨"IndependenceRows", "isRow", "(II)Z"⟩, 10) := ⟨⟨by decide +kernel, by decide +kernel⟩, List.mem_of_getElem? (i := 12) (by decide +kernel), List.mem_of_getElem? (i := 247) (by decide +kernel), List.mem_of_getElem? (i := 248) (by decide +kernel)⟩
theorem lw_p9 : lw_okq (⟨"IndependenceRows$Graph", "rows", "(I)I"⟩, 4) := ⟨⟨by decide +kernel, by decide +kernel⟩, List.mem_of_getElem? (i := 20) (by decide +kernel), List.mem_of_getElem? (i := 251) (by decide +kernel), List.mem_of_getElem? (i := 252) (by decide +kernel)⟩
theorem lw_p10 : lw_okq (⟨"IndependenceRows$Tables", "heldAt", "(I)I"⟩, 3) := ⟨⟨by decide +kernel, by decide +kernel⟩, List.mem_of_getElem? (i := 50) (by decide +kernel), List.mem_of_getElem? (i := 265) (by decide +kernel), List.mem_of_getElem? (i := 266) (by decide +kernel)⟩
theorem lw_p11 : lw_okq (⟨"IndependenceRows$Tables", "setHeld", "(II)V"⟩, 3) := ⟨⟨by decide +kernel, by decide +kernel⟩, List.mem_of_getElem? (i := 50) (by decide +kernel), List.mem_of_getElem? (i := 270) (by decide +kernel), List.mem_of_getElem? (i := 271) (by decide +kernel)⟩
theorem lw_p12 : lw_okq (⟨"IndependenceRows$Walks", "lookAt", "(LIndependenceRows$Graph;II)V"⟩, 8) := ⟨⟨by decide +kernel, by decide +kernel⟩, List.mem_of_getElem? (i := 70) (by decide +kernel), List.mem_of_getElem? (i := 283) (by decide +kernel), List.mem_of_getElem? (i := 284) (by decide +kernel)⟩
theorem lw_p13 : lw_okq (⟨"IndependenceRows$Walks", "below", "(I)I"⟩, 8) := ⟨⟨by decide +kernel, by decide +kernel⟩, List.mem_of_getElem? (i := 70) (by decide +kernel), List.mem_of_getElem? (i := 288) (by decide +kernel), List.mem_of_getElem? (i := 289) (by decide +kernel)⟩
theorem lw_p14 : lw_okq (⟨"IndependenceRows", "isQuestion", "(III)Z"⟩, 10) := ⟨⟨by decide +kernel, by decide +kernel⟩, List.mem_of_getElem? (i := 12) (by decide +kernel), List.mem_of_getElem? (i := 297) (by decide +kernel), List.mem_of_getElem? (i := 298) (by decide +kernel)⟩
theorem lw_p15 : lw_okq (⟨"IndependenceRows", "isSet", "(I)Z"⟩, 10) := ⟨⟨by decide +kernel, by decide +kernel⟩, List.mem_of_getElem? (i := 12) (by decide +kernel), List.mem_of_getElem? (i := 301) (by decide +kernel), List.mem_of_getElem? (i := 302) (by decide +kernel)⟩
def lw_privs_1 : List (MethodName × Nat) := [(⟨"IndependenceRows$Graph", "empty", "()V"⟩, 4), (⟨"IndependenceRows$Tables", "releaseAll", "()V"⟩, 3), (⟨"IndependenceRows$Tables", "startRows", "(I)V"⟩, 3), (⟨"IndependenceRows", "isPair", "(II)Z"⟩, 10), (⟨"IndependenceRows", "isPlace", "(I)Z"⟩, 10), (⟨"IndependenceRows$Graph", "neighbours", "(I)I"⟩, 4), (⟨"IndependenceRows$Graph", "join", "(II)V"⟩, 4), (⟨"IndependenceRows$Graph", "part", "(II)V"⟩, 4), (⟨"IndependenceRows", "isRow", "(II)Z"⟩, 10), (⟨"IndependenceRows$Graph", "rows", "(I)I"⟩, 4), (⟨"IndependenceRows$Tables", "heldAt", "(I)I"⟩, 3), (⟨"IndependenceRows$Tables", "setHeld", "(II)V"⟩, 3), (⟨"IndependenceRows$Walks", "lookAt", "(LIndependenceRows$Graph;II)V"⟩, 8), (⟨"IndependenceRows$Walks", "below", "(I)I"⟩, 8), (⟨"IndependenceRows", "isQuestion", "(III)Z"⟩, 10), (⟨"IndependenceRows", "isSet", "(I)Z"⟩, 10)]
theorem lw_r1 : ∀ q ∈ lw_privs_1, lw_okq q := List.forall_mem_cons.mpr ⟨lw_p0, List.forall_mem_cons.mpr ⟨lw_p1, List.forall_mem_cons.mpr ⟨lw_p2, List.forall_mem_cons.mpr ⟨lw_p3, List.forall_mem_cons.mpr ⟨lw_p4, List.forall_mem_cons.mpr ⟨lw_p5, List.forall_mem_cons.mpr ⟨lw_p6, List.forall_mem_cons.mpr ⟨lw_p7, List.forall_mem_cons.mpr ⟨lw_p8, List.forall_mem_cons.mpr ⟨lw_p9, List.forall_mem_cons.mpr ⟨lw_p10, List.forall_mem_cons.mpr ⟨lw_p11, List.forall_mem_cons.mpr ⟨lw_p12, List.forall_mem_cons.mpr ⟨lw_p13, List.forall_mem_cons.mpr ⟨lw_p14, List.forall_mem_cons.mpr ⟨lw_p15, fun _ h => absurd h List.not_mem_nil⟩⟩⟩⟩⟩⟩⟩⟩⟩⟩⟩⟩⟩⟩⟩⟩
theorem lw_p16 : lw_okq (⟨"IndependenceRows$Graph", "everyPlace", "()I"⟩, 4) := ⟨⟨by decide +kernel, by decide +kernel⟩, List.mem_of_getElem? (i := 20) (by decide +kernel), List.mem_of_getElem? (i := 305) (by decide +kernel), List.mem_of_getElem? (i := 306) (by decide +kernel)⟩
theorem lw_p17 : lw_okq (⟨"IndependenceRows$Walks", "shortest", "(III)I"⟩, 8) := ⟨⟨by decide +kernel, by decide +kernel⟩, List.mem_of_getElem? (i := 70) (by decide +kernel), List.mem_of_getElem? (i := 309) (by decide +kernel), List.mem_of_getElem? (i := 310) (by decide +kernel)⟩
theorem lw_p18 : lw_okq (⟨"IndependenceRows$Walks", "start", "(II)V"⟩, 8) := ⟨⟨by decide +kernel, by decide +kernel⟩, List.mem_of_getElem? (i := 70) (by decide +kernel), List.mem_of_getElem? (i := 313) (by decide +kernel), List.mem_of_getElem? (i := 314) (by decide +kernel)⟩
theorem lw_p19 : lw_okq (⟨"IndependenceRows$Walks", "step", "()V"⟩, 8) := ⟨⟨by decide +kernel, by decide +kernel⟩, List.mem_of_getElem? (i := 70) (by decide +kernel), List.mem_of_getElem? (i := 317) (by decide +kernel), List.mem_of_getElem? (i := 318) (by decide +kernel)⟩
theorem lw_p20 : lw_okq (⟨"IndependenceRows$Tables", "product", "(LIndependenceRows$Graph;I)J"⟩, 3) := ⟨⟨by decide +kernel, by decide +kernel⟩, List.mem_of_getElem? (i := 50) (by decide +kernel), List.mem_of_getElem? (i := 334) (by decide +kernel), List.mem_of_getElem? (i := 335) (by decide +kernel)⟩
theorem lw_p21 : lw_okq (⟨"IndependenceRows$Tables", "factor", "(LIndependenceRows$Graph;II)I"⟩, 3) := ⟨⟨by decide +kernel, by decide +kernel⟩, List.mem_of_getElem? (i := 50) (by decide +kernel), List.mem_of_getElem? (i := 339) (by decide +kernel), List.mem_of_getElem? (i := 340) (by decide +kernel)⟩
theorem lw_p22 : lw_okq (⟨"IndependenceRows", "leastDifference", "(III)I"⟩, 10) := ⟨⟨by decide +kernel, by decide +kernel⟩, List.mem_of_getElem? (i := 12) (by decide +kernel), List.mem_of_getElem? (i := 350) (by decide +kernel), List.mem_of_getElem? (i := 351) (by decide +kernel)⟩
theorem lw_p23 : lw_okq (⟨"IndependenceRows$Margin", "start", "(I)V"⟩, 2) := ⟨⟨by decide +kernel, by decide +kernel⟩, List.mem_of_getElem? (i := 133) (by decide +kernel), List.mem_of_getElem? (i := 354) (by decide +kernel), List.mem_of_getElem? (i := 355) (by decide +kernel)⟩
theorem lw_p24 : lw_okq (⟨"IndependenceRows$Margin", "add", "(IJ)V"⟩, 2) := ⟨⟨by decide +kernel, by decide +kernel⟩, List.mem_of_getElem? (i := 133) (by decide +kernel), List.mem_of_getElem? (i := 361) (by decide +kernel), List.mem_of_getElem? (i := 362) (by decide +kernel)⟩
theorem lw_p25 : lw_okq (⟨"IndependenceRows$Margin", "sum", "(I)J"⟩, 2) := ⟨⟨by decide +kernel, by decide +kernel⟩, List.mem_of_getElem? (i := 133) (by decide +kernel), List.mem_of_getElem? (i := 365) (by decide +kernel), List.mem_of_getElem? (i := 366) (by decide +kernel)⟩
theorem lw_p26 : lw_okq (⟨"IndependenceRows", "fewest", "(III)I"⟩, 10) := ⟨⟨by decide +kernel, by decide +kernel⟩, List.mem_of_getElem? (i := 12) (by decide +kernel), List.mem_of_getElem? (i := 377) (by decide +kernel), List.mem_of_getElem? (i := 378) (by decide +kernel)⟩
theorem lw_p27 : lw_okq (⟨"IndependenceRows$Walks", "reached", "(II)I"⟩, 8) := ⟨⟨by decide +kernel, by decide +kernel⟩, List.mem_of_getElem? (i := 70) (by decide +kernel), List.mem_of_getElem? (i := 382) (by decide +kernel), List.mem_of_getElem? (i := 383) (by decide +kernel)⟩
theorem lw_p28 : lw_okq (⟨"IndependenceRows$Graph", "copy", "(LIndependenceRows$Graph;)V"⟩, 4) := ⟨⟨by decide +kernel, by decide +kernel⟩, List.mem_of_getElem? (i := 20) (by decide +kernel), List.mem_of_getElem? (i := 398) (by decide +kernel), List.mem_of_getElem? (i := 399) (by decide +kernel)⟩
theorem lw_p29 : lw_okq (⟨"IndependenceRows$Graph", "tellsTheSameAs", "(LIndependenceRows$Graph;)Z"⟩, 4) := ⟨⟨by decide +kernel, by decide +kernel⟩, List.mem_of_getElem? (i := 20) (by decide +kernel), List.mem_of_getElem? (i := 409) (by decide +kernel), List.mem_of_getElem? (i := 410) (by decide +kernel)⟩
theorem lw_p30 : lw_okq (⟨"IndependenceRows$Graph", "strangers", "(II)I"⟩, 4) := ⟨⟨by decide +kernel, by decide +kernel⟩, List.mem_of_getElem? (i := 20) (by decide +kernel), List.mem_of_getElem? (i := 414) (by decide +kernel), List.mem_of_getElem? (i := 415) (by decide +kernel)⟩
theorem lw_p31 : lw_okq (⟨"IndependenceRows$Kin", "explore", "(LIndependenceRows$Graph;)V"⟩, 7) := ⟨⟨by decide +kernel, by decide +kernel⟩, List.mem_of_getElem? (i := 101) (by decide +kernel), List.mem_of_getElem? (i := 423) (by decide +kernel), List.mem_of_getElem? (i := 424) (by decide +kernel)⟩
def lw_privs_2 : List (MethodName × Nat) := [(⟨"IndependenceRows$Graph", "everyPlace", "()I"⟩, 4), (⟨"IndependenceRows$Walks", "shortest", "(III)I"⟩, 8), (⟨"IndependenceRows$Walks", "start", "(II)V"⟩, 8), (⟨"IndependenceRows$Walks", "step", "()V"⟩, 8), (⟨"IndependenceRows$Tables", "product", "(LIndependenceRows$Graph;I)J"⟩, 3), (⟨"IndependenceRows$Tables", "factor", "(LIndependenceRows$Graph;II)I"⟩, 3), (⟨"IndependenceRows", "leastDifference", "(III)I"⟩, 10), (⟨"IndependenceRows$Margin", "start", "(I)V"⟩, 2), (⟨"IndependenceRows$Margin", "add", "(IJ)V"⟩, 2), (⟨"IndependenceRows$Margin", "sum", "(I)J"⟩, 2), (⟨"IndependenceRows", "fewest", "(III)I"⟩, 10), (⟨"IndependenceRows$Walks", "reached", "(II)I"⟩, 8), (⟨"IndependenceRows$Graph", "copy", "(LIndependenceRows$Graph;)V"⟩, 4), (⟨"IndependenceRows$Graph", "tellsTheSameAs", "(LIndependenceRows$Graph;)Z"⟩, 4), (⟨"IndependenceRows$Graph", "strangers", "(II)I"⟩, 4), (⟨"IndependenceRows$Kin", "explore", "(LIndependenceRows$Graph;)V"⟩, 7)]
theorem lw_r2 : ∀ q ∈ lw_privs_2, lw_okq q := List.forall_mem_cons.mpr ⟨lw_p16, List.forall_mem_cons.mpr ⟨lw_p17, List.forall_mem_cons.mpr ⟨lw_p18, List.forall_mem_cons.mpr ⟨lw_p19, List.forall_mem_cons.mpr ⟨lw_p20, List.forall_mem_cons.mpr ⟨lw_p21, List.forall_mem_cons.mpr ⟨lw_p22, List.forall_mem_cons.mpr ⟨lw_p23, List.forall_mem_cons.mpr ⟨lw_p24, List.forall_mem_cons.mpr ⟨lw_p25, List.forall_mem_cons.mpr ⟨lw_p26, List.forall_mem_cons.mpr ⟨lw_p27, List.forall_mem_cons.mpr ⟨lw_p28, List.forall_mem_cons.mpr ⟨lw_p29, List.forall_mem_cons.mpr ⟨lw_p30, List.forall_mem_cons.mpr ⟨lw_p31, fun _ h => absurd h List.not_mem_nil⟩⟩⟩⟩⟩⟩⟩⟩⟩⟩⟩⟩⟩⟩⟩⟩
theorem lw_p32 : lw_okq (⟨"IndependenceRows$Kin", "listArcs", "()V"⟩, 7) := ⟨⟨by decide +kernel, by decide +kernel⟩, List.mem_of_getElem? (i := 101) (by decide +kernel), List.mem_of_getElem? (i := 428) (by decide +kernel), List.mem_of_getElem? (i := 429) (by decide +kernel)⟩
theorem lw_p33 : lw_okq (⟨"IndependenceRows$Kin", "direct", "(II)V"⟩, 7) := ⟨⟨by decide +kernel, by decide +kernel⟩, List.mem_of_getElem? (i := 101) (by decide +kernel), List.mem_of_getElem? (i := 434) (by decide +kernel), List.mem_of_getElem? (i := 435) (by decide +kernel)⟩
theorem lw_p34 : lw_okq (⟨"IndependenceRows$Kin", "directOne", "(IIII)V"⟩, 7) := ⟨⟨by decide +kernel, by decide +kernel⟩, List.mem_of_getElem? (i := 101) (by decide +kernel), List.mem_of_getElem? (i := 438) (by decide +kernel), List.mem_of_getElem? (i := 439) (by decide +kernel)⟩
theorem lw_p35 : lw_okq (⟨"IndependenceRows$Kin", "meetsAsFirst", "(II)Z"⟩, 7) := ⟨⟨by decide +kernel, by decide +kernel⟩, List.mem_of_getElem? (i := 101) (by decide +kernel), List.mem_of_getElem? (i := 442) (by decide +kernel), List.mem_of_getElem? (i := 443) (by decide +kernel)⟩
theorem lw_p36 : lw_okq (⟨"IndependenceRows$Kin", "isTurned", "(II)Z"⟩, 7) := ⟨⟨by decide +kernel, by decide +kernel⟩, List.mem_of_getElem? (i := 101) (by decide +kernel), List.mem_of_getElem? (i := 450) (by decide +kernel), List.mem_of_getElem? (i := 451) (by decide +kernel)⟩
theorem lw_p37 : lw_okq (⟨"IndependenceRowsModel", "begin", "()V"⟩, 23) := ⟨⟨by decide +kernel, by decide +kernel⟩, List.mem_of_getElem? (i := 462) (by decide +kernel), List.mem_of_getElem? (i := 468) (by decide +kernel), List.mem_of_getElem? (i := 469) (by decide +kernel)⟩
theorem lw_p38 : lw_okq (⟨"IndependenceRowsModel", "evenOdds", "(I)V"⟩, 23) := ⟨⟨by decide +kernel, by decide +kernel⟩, List.mem_of_getElem? (i := 462) (by decide +kernel), List.mem_of_getElem? (i := 551) (by decide +kernel), List.mem_of_getElem? (i := 552) (by decide +kernel)⟩
theorem lw_p39 : lw_okq (⟨"IndependenceRowsModel", "isPlace", "(I)Z"⟩, 23) := ⟨⟨by decide +kernel, by decide +kernel⟩, List.mem_of_getElem? (i := 462) (by decide +kernel), List.mem_of_getElem? (i := 559) (by decide +kernel), List.mem_of_getElem? (i := 560) (by decide +kernel)⟩
theorem lw_p40 : lw_okq (⟨"IndependenceRowsModel", "aboveOf", "([II)I"⟩, 23) := ⟨⟨by decide +kernel, by decide +kernel⟩, List.mem_of_getElem? (i := 462) (by decide +kernel), List.mem_of_getElem? (i := 563) (by decide +kernel), List.mem_of_getElem? (i := 564) (by decide +kernel)⟩
theorem lw_p41 : lw_okq (⟨"IndependenceRowsModel", "isArc", "(II)Z"⟩, 23) := ⟨⟨by decide +kernel, by decide +kernel⟩, List.mem_of_getElem? (i := 462) (by decide +kernel), List.mem_of_getElem? (i := 571) (by decide +kernel), List.mem_of_getElem? (i := 572) (by decide +kernel)⟩
theorem lw_p42 : lw_okq (⟨"IndependenceRowsModel", "isRow", "(II)Z"⟩, 23) := ⟨⟨by decide +kernel, by decide +kernel⟩, List.mem_of_getElem? (i := 462) (by decide +kernel), List.mem_of_getElem? (i := 579) (by decide +kernel), List.mem_of_getElem? (i := 580) (by decide +kernel)⟩
theorem lw_p43 : lw_okq (⟨"IndependenceRowsModel", "countArcs", "(I)V"⟩, 23) := ⟨⟨by decide +kernel, by decide +kernel⟩, List.mem_of_getElem? (i := 462) (by decide +kernel), List.mem_of_getElem? (i := 598) (by decide +kernel), List.mem_of_getElem? (i := 599) (by decide +kernel)⟩
theorem lw_p44 : lw_okq (⟨"IndependenceRowsModel", "belowOf", "(I)I"⟩, 23) := ⟨⟨by decide +kernel, by decide +kernel⟩, List.mem_of_getElem? (i := 462) (by decide +kernel), List.mem_of_getElem? (i := 602) (by decide +kernel), List.mem_of_getElem? (i := 603) (by decide +kernel)⟩
theorem lw_p45 : lw_okq (⟨"IndependenceRowsModel", "isAsked", "(III)Z"⟩, 23) := ⟨⟨by decide +kernel, by decide +kernel⟩, List.mem_of_getElem? (i := 462) (by decide +kernel), List.mem_of_getElem? (i := 610) (by decide +kernel), List.mem_of_getElem? (i := 611) (by decide +kernel)⟩
theorem lw_p46 : lw_okq (⟨"IndependenceRowsModel", "isSet", "(I)Z"⟩, 23) := ⟨⟨by decide +kernel, by decide +kernel⟩, List.mem_of_getElem? (i := 462) (by decide +kernel), List.mem_of_getElem? (i := 614) (by decide +kernel), List.mem_of_getElem? (i := 615) (by decide +kernel)⟩
theorem lw_p47 : lw_okq (⟨"IndependenceRowsModel", "isSeparated", "([IIII)Z"⟩, 23) := ⟨⟨by decide +kernel, by decide +kernel⟩, List.mem_of_getElem? (i := 462) (by decide +kernel), List.mem_of_getElem? (i := 618) (by decide +kernel), List.mem_of_getElem? (i := 619) (by decide +kernel)⟩
def lw_privs_3 : List (MethodName × Nat) := [(⟨"IndependenceRows$Kin", "listArcs", "()V"⟩, 7), (⟨"IndependenceRows$Kin", "direct", "(II)V"⟩, 7), (⟨"IndependenceRows$Kin", "directOne", "(IIII)V"⟩, 7), (⟨"IndependenceRows$Kin", "meetsAsFirst", "(II)Z"⟩, 7), (⟨"IndependenceRows$Kin", "isTurned", "(II)Z"⟩, 7), (⟨"IndependenceRowsModel", "begin", "()V"⟩, 23), (⟨"IndependenceRowsModel", "evenOdds", "(I)V"⟩, 23), (⟨"IndependenceRowsModel", "isPlace", "(I)Z"⟩, 23), (⟨"IndependenceRowsModel", "aboveOf", "([II)I"⟩, 23), (⟨"IndependenceRowsModel", "isArc", "(II)Z"⟩, 23), (⟨"IndependenceRowsModel", "isRow", "(II)Z"⟩, 23), (⟨"IndependenceRowsModel", "countArcs", "(I)V"⟩, 23), (⟨"IndependenceRowsModel", "belowOf", "(I)I"⟩, 23), (⟨"IndependenceRowsModel", "isAsked", "(III)Z"⟩, 23), (⟨"IndependenceRowsModel", "isSet", "(I)Z"⟩, 23), (⟨"IndependenceRowsModel", "isSeparated", "([IIII)Z"⟩, 23)]
theorem lw_r3 : ∀ q ∈ lw_privs_3, lw_okq q := List.forall_mem_cons.mpr ⟨lw_p32, List.forall_mem_cons.mpr ⟨lw_p33, List.forall_mem_cons.mpr ⟨lw_p34, List.forall_mem_cons.mpr ⟨lw_p35, List.forall_mem_cons.mpr ⟨lw_p36, List.forall_mem_cons.mpr ⟨lw_p37, List.forall_mem_cons.mpr ⟨lw_p38, List.forall_mem_cons.mpr ⟨lw_p39, List.forall_mem_cons.mpr ⟨lw_p40, List.forall_mem_cons.mpr ⟨lw_p41, List.forall_mem_cons.mpr ⟨lw_p42, List.forall_mem_cons.mpr ⟨lw_p43, List.forall_mem_cons.mpr ⟨lw_p44, List.forall_mem_cons.mpr ⟨lw_p45, List.forall_mem_cons.mpr ⟨lw_p46, List.forall_mem_cons.mpr ⟨lw_p47, fun _ h => absurd h List.not_mem_nil⟩⟩⟩⟩⟩⟩⟩⟩⟩⟩⟩⟩⟩⟩⟩⟩
theorem lw_p48 : lw_okq (⟨"IndependenceRowsModel", "children2", "(II)I"⟩, 23) := ⟨⟨by decide +kernel, by decide +kernel⟩, List.mem_of_getElem? (i := 462) (by decide +kernel), List.mem_of_getElem? (i := 626) (by decide +kernel), List.mem_of_getElem? (i := 627) (by decide +kernel)⟩
theorem lw_p49 : lw_okq (⟨"IndependenceRowsModel", "weigh", "()V"⟩, 23) := ⟨⟨by decide +kernel, by decide +kernel⟩, List.mem_of_getElem? (i := 462) (by decide +kernel), List.mem_of_getElem? (i := 635) (by decide +kernel), List.mem_of_getElem? (i := 636) (by decide +kernel)⟩
theorem lw_p50 : lw_okq (⟨"IndependenceRowsModel", "hangs", "(III)I"⟩, 23) := ⟨⟨by decide +kernel, by decide +kernel⟩, List.mem_of_getElem? (i := 462) (by decide +kernel), List.mem_of_getElem? (i := 644) (by decide +kernel), List.mem_of_getElem? (i := 645) (by decide +kernel)⟩
theorem lw_p51 : lw_okq (⟨"IndependenceRowsModel", "learn", "()V"⟩, 23) := ⟨⟨by decide +kernel, by decide +kernel⟩, List.mem_of_getElem? (i := 462) (by decide +kernel), List.mem_of_getElem? (i := 672) (by decide +kernel), List.mem_of_getElem? (i := 673) (by decide +kernel)⟩
theorem lw_p52 : lw_okq (⟨"IndependenceRowsModel", "tellsAlike", "([I)Z"⟩, 23) := ⟨⟨by decide +kernel, by decide +kernel⟩, List.mem_of_getElem? (i := 462) (by decide +kernel), List.mem_of_getElem? (i := 676) (by decide +kernel), List.mem_of_getElem? (i := 677) (by decide +kernel)⟩
theorem lw_p53 : lw_okq (⟨"IndependenceRowsModel", "countFamily", "()V"⟩, 23) := ⟨⟨by decide +kernel, by decide +kernel⟩, List.mem_of_getElem? (i := 462) (by decide +kernel), List.mem_of_getElem? (i := 684) (by decide +kernel), List.mem_of_getElem? (i := 685) (by decide +kernel)⟩
theorem lw_p54 : lw_okq (⟨"IndependenceRowsModel", "listArcs", "()I"⟩, 23) := ⟨⟨by decide +kernel, by decide +kernel⟩, List.mem_of_getElem? (i := 462) (by decide +kernel), List.mem_of_getElem? (i := 688) (by decide +kernel), List.mem_of_getElem? (i := 689) (by decide +kernel)⟩
theorem lw_p55 : lw_okq (⟨"IndependenceRowsModel", "hasNoRing", "()Z"⟩, 23) := ⟨⟨by decide +kernel, by decide +kernel⟩, List.mem_of_getElem? (i := 462) (by decide +kernel), List.mem_of_getElem? (i := 692) (by decide +kernel), List.mem_of_getElem? (i := 693) (by decide +kernel)⟩
def lw_privs_4 : List (MethodName × Nat) := [(⟨"IndependenceRowsModel", "children2", "(II)I"⟩, 23), (⟨"IndependenceRowsModel", "weigh", "()V"⟩, 23), (⟨"IndependenceRowsModel", "hangs", "(III)I"⟩, 23), (⟨"IndependenceRowsModel", "learn", "()V"⟩, 23), (⟨"IndependenceRowsModel", "tellsAlike", "([I)Z"⟩, 23), (⟨"IndependenceRowsModel", "countFamily", "()V"⟩, 23), (⟨"IndependenceRowsModel", "listArcs", "()I"⟩, 23), (⟨"IndependenceRowsModel", "hasNoRing", "()Z"⟩, 23)]
theorem lw_r4 : ∀ q ∈ lw_privs_4, lw_okq q := List.forall_mem_cons.mpr ⟨lw_p48, List.forall_mem_cons.mpr ⟨lw_p49, List.forall_mem_cons.mpr ⟨lw_p50, List.forall_mem_cons.mpr ⟨lw_p51, List.forall_mem_cons.mpr ⟨lw_p52, List.forall_mem_cons.mpr ⟨lw_p53, List.forall_mem_cons.mpr ⟨lw_p54, List.forall_mem_cons.mpr ⟨lw_p55, fun _ h => absurd h List.not_mem_nil⟩⟩⟩⟩⟩⟩⟩⟩
def lw_privs : List (MethodName × Nat) := lw_privs_1 ++ (lw_privs_2 ++ (lw_privs_3 ++ (lw_privs_4)))
def lw_tbl : List Cond := k2_sels lw_privs ++ tables_1
theorem lw_privs_ok : ∀ q ∈ lw_privs, lw_okq q := by
  show ∀ q ∈ lw_privs_1 ++ (lw_privs_2 ++ (lw_privs_3 ++ (lw_privs_4))), lw_okq q
  exact List.forall_mem_append.mpr ⟨lw_r1, List.forall_mem_append.mpr ⟨lw_r2, List.forall_mem_append.mpr ⟨lw_r3, lw_r4⟩⟩⟩
/-! ===== BEGIN new T[n][m]: the outer array a place, the inner ones among the pooled ===== -/
/-- f, but v at every address of l -/
def vr_up {α : Type} (f : Nat → α) (l : List Nat) (v : α) : Nat → α := fun a => if a ∈ l then v else f a
theorem vr_up_in {α : Type} {f : Nat → α} {l : List Nat} {v : α} {a : Nat} (h : a ∈ l) : vr_up f l v a = v := if_pos h
theorem vr_up_ne {α : Type} {f : Nat → α} {l : List Nat} {v : α} {a : Nat} (h : a ∉ l) : vr_up f l v a = f a := if_neg h
theorem vr_rows {L l : List Nat} {f : Nat → va_E} {e : va_E} (h : ∀ a, a ∈ l → a ∉ L) : va_pl L f ++ l.map (fun a => (a, e)) = va_pl (L ++ l) (vr_up f l e) := by
  unfold va_pl
  rw [List.map_append]
  congr 1
  · apply List.map_congr_left
    intro a ha
    rw [vr_up_ne (fun q => h a q ha)]
  · apply List.map_congr_left
    intro a ha
    rw [vr_up_in ha]
theorem vr_lay {X rows : va_W} {x : Nat × va_E} {pl : va_W} {D : va_G} {cl : List vw_C} {H : Heap} (hP : va_P D cl (((X ++ pl) ++ [x]) ++ rows) H) : va_P D cl ((X ++ [x]) ++ (pl ++ rows)) H := by
  rw [List.append_assoc (X ++ pl)] at hP
  have h := va_P.swap hP
  rw [← List.append_assoc X] at h
  have h2 := va_P.swap h
  rw [List.append_assoc (X ++ [x])] at h2
  exact h2
theorem vr_layD {X rows : va_W} {x : Nat × va_E} {pl : va_W} {A : Nat → Prop} (hD : va_D A (((X ++ pl) ++ [x]) ++ rows)) : va_D A ((X ++ [x]) ++ (pl ++ rows)) := by
  rw [List.append_assoc (X ++ pl)] at hD
  have h := va_D.swap hD
  rw [← List.append_assoc X] at h
  have h2 := va_D.swap h
  rw [List.append_assoc (X ++ [x])] at h2
  exact h2
theorem vr_outer (c : ClassId) (N h0 : Nat) : ∀ i : Nat, Jvm.Free.Multi.outerC c N h0 i = arrV c N (fun j => va_rf (if j < i then some (h0 + 1 + j) else none))
  | 0 => by
    show ({ cls := c, slots := Array.replicate N .null, vm := .none } : Cell) = _
    rw [arrV_new]
    refine congrArg (arrV c N) (funext fun j => ?_)
    simp [va_rf]
  | i + 1 => by
    show (Jvm.Free.Multi.outerC c N h0 i).setSlot i (.ref (h0 + 1 + i)) = _
    rw [vr_outer c N h0 i, arrV_store]
    refine congrArg (arrV c N) (funext fun j => ?_)
    by_cases e : j = i
    · subst e
      simp [updV, va_rf]
    · by_cases h : j < i
      · simp [updV, e, h, Nat.lt_succ_of_lt h]
      · simp [updV, e, h, show ¬ j < i + 1 by omega]
section VGM
variable {p : Program} {l : Launch} {e : Env} {R : Room} {s : State} {m : MethodId} {args : Array Value} {below : List Frame} {meth : Method} {c : Code} {H : Heap} {locs : List Loc} {cells slots : Nat} {Q : State → Prop}
variable {cc : ByteArray} {pc : Nat} {ls : Array Slot} {rest : List Value} {D : va_G} {cl : List vw_C} {A : Nat → Prop} {a : Nat} {tys : List (ClassId × FieldType)} {ws : va_W} {H0 : Heap}
theorem va_mna {X : va_W} {L : List Nat} {f : Nat → va_E} {cc : ByteArray} (hexec : p.tables.exec = Jvm.exec) (hb : c.code = cc) {own : String} {index : Nat} {ty : FieldType} {cy : ClassId} (hown : s.vm.findClass own = some m.cls) (hclink : (Cond.classLink own index ("[" ++ (FieldType.array ty).toString)).before args s = true) (hover : (Cond.arrayOver (.array ty)).before args s = true) (harr : (Cond.arrayClass ty).before args s = true) (hcy : s.vm.findClass (FieldType.array ty).toString = some cy)
    (hK : va_K D cl tys s) (hP : va_P D cl (X ++ va_pl L f) H) (hD : va_D A (X ++ va_pl L f)) (hS : va_S A H0 H locs) (hA : ∀ q, H0.size ≤ q → A q) {n k : Int32} {N' K' : Nat} {z : vp_A} (hn : ¬ n < 0) (hk : ¬ k < 0) (hN : n.toNatClampNeg = N') (hM : k.toNatClampNeg = K')
    (hb1 : N' * 4 ≤ 536870912) (hb2 : K' * componentBytes ty ≤ 536870912) (hb3 : K' ≤ 536870912) (hdf : fits ty (defaultValue ty) = true) (hdd : (defaultValue ty).isDefault = true) (hcells : cells + (1 + N') ≤ R.cells) (hslots : slots + (N' + N' * K') ≤ R.slots) (hz : ∀ c : ClassId, Jvm.Free.Multi.innerC c K' (defaultValue ty) = vp_cell c z) (hdg : decode cc pc = .ok (.multianewarray index 2, 4))
    (kk : ∀ (q : Nat) (r : Nat → Nat) (cA : ClassId) (H1 : Heap), (∀ i j : Nat, i < N' → j < N' → r i = r j → i = j) → (∀ i : Nat, i < N' → r i ∉ L) → va_K D cl (tys ++ [(cA, .array ty)]) s →
      va_P D cl ((X ++ [(q, .inl (cA, N', .inr (.inr (.inr (.inr (fun i => if i < N' then some (r i) else none))))))]) ++ va_pl (L ++ (List.range N').map r) (vr_up f ((List.range N').map r) (.inl (cy, z)))) H1 → va_D A ((X ++ [(q, .inl (cA, N', .inr (.inr (.inr (.inr (fun i => if i < N' then some (r i) else none))))))]) ++ va_pl (L ++ (List.range N').map r) (vr_up f ((List.range N').map r) (.inl (cy, z)))) → va_S A H0 H1 locs →
      W p l e R s m args below meth c H1 locs (cells + 1 + N') (slots + N' + N' * K') Q (F0 m (pc + 4) ls (.ref q :: rest))) : W p l e R s m args below meth c H locs cells slots Q (F0 m pc ls (.int k :: .int n :: rest)) := by
  subst hN
  subst hM
  intro T hT Xs
  obtain ⟨vm₁, cA, comp, -, fA, fC, hO, -, X', step⟩ := Xs.multianewarray2F hexec hown hclink hover harr (g := F0 m pc ls (.int k :: .int n :: rest)) rfl (by rw [hb]; exact hdg) rfl hn hk hb1 hb2 hb3 hdf hdd hcells hslots
  have ec : some cy = some comp := hcy.symm.trans fC
  cases ec
  generalize hF : Jvm.Free.Multi.fill (T.setVm vm₁) cA cy n.toNatClampNeg k.toNatClampNeg (defaultValue ty) n.toNatClampNeg = F at X' step
  have hTh : (T.setVm vm₁).heap = H := hT
  obtain ⟨f1, f2, -, -⟩ := Jvm.Free.Multi.fill_facts (T.setVm vm₁) cA cy n.toNatClampNeg k.toNatClampNeg (defaultValue ty) n.toNatClampNeg
  rw [hF, hTh] at f1 f2
  have hold : ∀ x : Nat, x < H.size → F.heap[x]? = H[x]? := fun x hx => by
    have := Jvm.Free.Multi.fill_old (T.setVm vm₁) cA cy n.toNatClampNeg k.toNatClampNeg (defaultValue ty) (a := x) (by rw [hTh]; exact hx) n.toNatClampNeg
    rw [hF, hTh] at this
    exact this
  have hrow : ∀ j : Nat, j < n.toNatClampNeg → F.heap[H.size + 1 + j]? = some (vp_cell cy z) := fun j hj => by
    have := Jvm.Free.Multi.fill_inner (T.setVm vm₁) cA cy n.toNatClampNeg k.toNatClampNeg (defaultValue ty) n.toNatClampNeg j hj
    rw [hF, hTh, hz] at this
    exact this
  have hout : Jvm.Free.Multi.outerC cA n.toNatClampNeg H.size n.toNatClampNeg = vp_cell cA (n.toNatClampNeg, .inr (.inr (.inr (.inr (fun i => if i < n.toNatClampNeg then some (H.size + 1 + i) else none))))) := by
    rw [vp_cell_q]
    exact vr_outer cA n.toNatClampNeg H.size n.toNatClampNeg
  rw [hout] at f2
  have hlt : ∀ a, a ∈ L → a < H.size := fun a ha => by
    obtain ⟨k9, hk9⟩ := va_pl_get (X := X) (f := f) ha
    exact (hP k9 _ hk9).lt
  have hnl : ∀ i : Nat, i < n.toNatClampNeg → H.size + 1 + i ∉ L := fun i _ h => by
    have := hlt _ h
    omega
  have hnm : ∀ a, a ∈ (List.range n.toNatClampNeg).map (fun i => H.size + 1 + i) → a ∉ L := fun a ha h => by
    obtain ⟨i, -, rfl⟩ := List.mem_map.mp ha
    have := hlt _ h
    omega
  have hP0 : va_P D cl (X ++ va_pl L f) F.heap := hP.kept (fun k9 x hx => hold x.1 ((hP k9 x hx).lt))
  have hP1 : va_P D cl ((X ++ va_pl L f) ++ [(H.size, .inl (cA, n.toNatClampNeg, .inr (.inr (.inr (.inr (fun i => if i < n.toNatClampNeg then some (H.size + 1 + i) else none))))))]) F.heap := hP0.app (fun k9 x hx => by
    have h0 : k9 < 1 := (List.getElem?_eq_some_iff.mp hx).1
    rw [show k9 = 0 by omega] at hx
    cases hx
    exact f2)
  have hP2 : va_P D cl (((X ++ va_pl L f) ++ [(H.size, .inl (cA, n.toNatClampNeg, .inr (.inr (.inr (.inr (fun i => if i < n.toNatClampNeg then some (H.size + 1 + i) else none))))))]) ++ ((List.range n.toNatClampNeg).map (fun i => H.size + 1 + i)).map (fun a => (a, .inl (cy, z)))) F.heap := hP1.app (fun k9 x hx => by
    obtain ⟨a, ha, rfl⟩ := List.mem_map.mp (List.mem_of_getElem? hx)
    obtain ⟨i, hi, rfl⟩ := List.mem_map.mp ha
    exact hrow i (List.mem_range.mp hi))
  have hD2 : va_D A (((X ++ va_pl L f) ++ [(H.size, .inl (cA, n.toNatClampNeg, .inr (.inr (.inr (.inr (fun i => if i < n.toNatClampNeg then some (H.size + 1 + i) else none))))))]) ++ ((List.range n.toNatClampNeg).map (fun i => H.size + 1 + i)).map (fun a => (a, .inl (cy, z)))) := by
    have hD1 := hD.push (e := .inl (cA, n.toNatClampNeg, .inr (.inr (.inr (.inr (fun i => if i < n.toNatClampNeg then some (H.size + 1 + i) else none)))))) hP rfl (hA _ hS.1)
    generalize hW1 : (X ++ va_pl L f) ++ [(H.size, .inl (cA, n.toNatClampNeg, .inr (.inr (.inr (.inr (fun i => if i < n.toNatClampNeg then some (H.size + 1 + i) else none))))))] = W1 at hD1 hP1 ⊢
    have hle : ∀ (k9 : Nat) (x : Nat × va_E), W1[k9]? = some x → x.1 ≤ H.size := fun k9 x hx => by
      rw [← hW1] at hx
      by_cases hl : k9 < (X ++ va_pl L f).length
      · rw [List.getElem?_append_left hl] at hx
        exact Nat.le_of_lt ((hP k9 x hx).lt)
      · rw [List.getElem?_append_right (by omega)] at hx
        have h0 : k9 - (X ++ va_pl L f).length < 1 := (List.getElem?_eq_some_iff.mp hx).1
        rw [show k9 - (X ++ va_pl L f).length = 0 by omega] at hx
        cases hx
        exact Nat.le_refl _
    have hr : ∀ (k9 : Nat) (x : Nat × va_E), (((List.range n.toNatClampNeg).map (fun i => H.size + 1 + i)).map (fun a => ((a, .inl (cy, z)) : Nat × va_E)))[k9]? = some x → x.1 = H.size + 1 + k9 := fun k9 x hx => by
      rw [List.getElem?_map, List.getElem?_map] at hx
      by_cases h9 : k9 < n.toNatClampNeg
      · rw [List.getElem?_range h9] at hx
        cases hx
        rfl
      · have hn0 : (List.range n.toNatClampNeg)[k9]? = none := List.getElem?_eq_none (by rw [List.length_range]; omega)
        rw [hn0] at hx
        cases hx
    refine ⟨fun i j x y hi hj hxy => ?_, fun k9 x hx => ?_⟩
    · by_cases h1 : i < W1.length <;> by_cases h2 : j < W1.length
      · rw [List.getElem?_append_left h1] at hi
        rw [List.getElem?_append_left h2] at hj
        exact hD1.1 i j x y hi hj hxy
      · rw [List.getElem?_append_left h1] at hi
        rw [List.getElem?_append_right (by omega)] at hj
        have := hle _ _ hi
        have := hr _ _ hj
        omega
      · rw [List.getElem?_append_right (by omega)] at hi
        rw [List.getElem?_append_left h2] at hj
        have := hle _ _ hj
        have := hr _ _ hi
        omega
      · rw [List.getElem?_append_right (by omega)] at hi hj
        have := hr _ _ hi
        have := hr _ _ hj
        omega
    · by_cases h1 : k9 < W1.length
      · rw [List.getElem?_append_left h1] at hx
        exact hD1.2 k9 x hx
      · rw [List.getElem?_append_right (by omega)] at hx
        have := hr _ _ hx
        exact hA _ (by have := hS.1; omega)
  have hAr : ArrOfT s cA (.array ty) := fun N9 z9 => by
    obtain ⟨-, k9, hk9, cm9, hkk9⟩ := (hO 0 0 0).1
    exact ⟨(fun q hq => by cases hq), k9, hk9, cm9, hkk9⟩
  have hK2 : va_K D cl (tys ++ [(cA, .array ty)]) s := ⟨hK.1, fun k9 x hx => by
    by_cases hl : k9 < tys.length
    · rw [List.getElem?_append_left hl] at hx
      exact hK.2 k9 x hx
    · rw [List.getElem?_append_right (by omega)] at hx
      have h0 : k9 - tys.length < 1 := (List.getElem?_eq_some_iff.mp hx).1
      rw [show k9 - tys.length = 0 by omega] at hx
      cases hx
      exact ⟨hAr, fA⟩⟩
  obtain ⟨t, a1, b1⟩ := kk H.size (fun i => H.size + 1 + i) cA F.heap (fun i j _ _ h => by have h9 : H.size + 1 + i = H.size + 1 + j := h; omega) hnl hK2 (by rw [← vr_rows hnm]; exact vr_lay hP2) (by rw [← vr_rows hnm]; exact vr_layD hD2) ⟨by rw [f1]; have := hS.1; omega, fun x h1 h2 => (hold x (Nat.lt_of_lt_of_le h1 hS.1)).trans (hS.2.1 x h1 h2), hS.2.2⟩ F rfl X'
  refine ⟨t, step t ?_, b1⟩
  have e : T.heap.size = H.size := by rw [hT]
  rw [e]
  exact a1
end VGM
/-! ===== END ===== -/
/-! NAMES: written by wip/whole/tools/names.py -/
theorem am_tb1 {w : Cond} (i : Nat) (h : tables_1_1[i]? = some w) : w ∈ lw_tbl := List.mem_append_right _ (List.mem_append_left _ (List.mem_of_getElem? h))
theorem am_tb2 {w : Cond} (i : Nat) (h : tables_1_2[i]? = some w) : w ∈ lw_tbl := List.mem_append_right _ (List.mem_append_right _ (List.mem_append_left _ (List.mem_of_getElem? h)))
theorem am_tb3 {w : Cond} (i : Nat) (h : tables_1_3[i]? = some w) : w ∈ lw_tbl := List.mem_append_right _ (List.mem_append_right _ (List.mem_append_right _ (List.mem_of_getElem? h)))
theorem am_se (q : MethodName × Nat) (h : q ∈ lw_privs) : Cond.selects q.1.cls q.1 q.1 ∈ lw_tbl := List.mem_append_left _ (List.mem_map.mpr ⟨q, h, rfl⟩)
def R_X : String := "IndependenceRows"
def T_X : u_T := fun k => match k with
  | 0 => ("IndependenceRows", "graph", "LIndependenceRows$Graph;", true)
  | 1 => ("IndependenceRows", "kept", "LIndependenceRows$Graph;", true)
  | 2 => ("IndependenceRows", "anyKept", "Z", false)
  | 3 => ("IndependenceRows", "tables", "LIndependenceRows$Tables;", true)
  | 4 => ("IndependenceRows", "walks", "LIndependenceRows$Walks;", true)
  | 5 => ("IndependenceRows", "kin", "LIndependenceRows$Kin;", true)
  | 6 => ("IndependenceRows", "ofAll", "LIndependenceRows$Margin;", true)
  | 7 => ("IndependenceRows", "ofGiven", "LIndependenceRows$Margin;", true)
  | 8 => ("IndependenceRows", "ofOne", "LIndependenceRows$Margin;", true)
  | _ => ("IndependenceRows", "ofOther", "LIndependenceRows$Margin;", true)
def ty_X : Nat → FieldType := fun k => match k with
  | 0 => .object "IndependenceRows$Graph"
  | 1 => .object "IndependenceRows$Graph"
  | 2 => .boolean
  | 3 => .object "IndependenceRows$Tables"
  | 4 => .object "IndependenceRows$Walks"
  | 5 => .object "IndependenceRows$Kin"
  | 6 => .object "IndependenceRows$Margin"
  | 7 => .object "IndependenceRows$Margin"
  | 8 => .object "IndependenceRows$Margin"
  | _ => .object "IndependenceRows$Margin"
theorem nm_X : ∀ a, a < 10 → ∀ b, b < 10 → a ≠ b → (T_X a).2.1 ≠ (T_X b).2.1 := by decide +kernel
theorem tok_X : ∀ k, k < 10 → parseFieldDescriptor (T_X k).2.2.1 = some (ty_X k) := by decide +kernel
def R_G : String := "IndependenceRows$Graph"
def T_G : u_T := fun k => match k with
  | 0 => ("IndependenceRows$Graph", "places", "I", false)
  | 1 => ("IndependenceRows$Graph", "arcs", "I", false)
  | 2 => ("IndependenceRows$Graph", "parents", "[I", true)
  | _ => ("IndependenceRows$Graph", "children", "[I", true)
def ty_G : Nat → FieldType := fun k => match k with
  | 0 => .int
  | 1 => .int
  | 2 => .array .int
  | _ => .array .int
theorem nm_G : ∀ a, a < 4 → ∀ b, b < 4 → a ≠ b → (T_G a).2.1 ≠ (T_G b).2.1 := by decide +kernel
theorem tok_G : ∀ k, k < 4 → parseFieldDescriptor (T_G k).2.2.1 = some (ty_G k) := by decide +kernel
def R_K : String := "IndependenceRows$Kin"
def T_K : u_T := fun k => match k with
  | 0 => ("IndependenceRows$Kin", "first", "LIndependenceRows$Graph;", true)
  | 1 => ("IndependenceRows$Kin", "arcs", "I", false)
  | 2 => ("IndependenceRows$Kin", "from", "[I", true)
  | 3 => ("IndependenceRows$Kin", "to", "[I", true)
  | 4 => ("IndependenceRows$Kin", "parents", "[I", true)
  | 5 => ("IndependenceRows$Kin", "found", "I", false)
  | _ => ("IndependenceRows$Kin", "turned", "I", false)
def ty_K : Nat → FieldType := fun k => match k with
  | 0 => .object "IndependenceRows$Graph"
  | 1 => .int
  | 2 => .array .int
  | 3 => .array .int
  | 4 => .array .int
  | 5 => .int
  | _ => .int
theorem nm_K : ∀ a, a < 7 → ∀ b, b < 7 → a ≠ b → (T_K a).2.1 ≠ (T_K b).2.1 := by decide +kernel
theorem tok_K : ∀ k, k < 7 → parseFieldDescriptor (T_K k).2.2.1 = some (ty_K k) := by decide +kernel
def R_N : String := "IndependenceRows$Margin"
def T_N : u_T := fun k => match k with
  | 0 => ("IndependenceRows$Margin", "set", "I", false)
  | _ => ("IndependenceRows$Margin", "sums", "[J", true)
def ty_N : Nat → FieldType := fun k => match k with
  | 0 => .int
  | _ => .array .long
theorem nm_N : ∀ a, a < 2 → ∀ b, b < 2 → a ≠ b → (T_N a).2.1 ≠ (T_N b).2.1 := by decide +kernel
theorem tok_N : ∀ k, k < 2 → parseFieldDescriptor (T_N k).2.2.1 = some (ty_N k) := by decide +kernel
def R_T : String := "IndependenceRows$Tables"
def T_T : u_T := fun k => match k with
  | 0 => ("IndependenceRows$Tables", "eighths", "[[I", true)
  | 1 => ("IndependenceRows$Tables", "held", "I", false)
  | _ => ("IndependenceRows$Tables", "heldValues", "I", false)
def ty_T : Nat → FieldType := fun k => match k with
  | 0 => .array (.array .int)
  | 1 => .int
  | _ => .int
theorem nm_T : ∀ a, a < 3 → ∀ b, b < 3 → a ≠ b → (T_T a).2.1 ≠ (T_T b).2.1 := by decide +kernel
theorem tok_T : ∀ k, k < 3 → parseFieldDescriptor (T_T k).2.2.1 = some (ty_T k) := by decide +kernel
def R_V : String := "IndependenceRows$Walks"
def T_V : u_T := fun k => match k with
  | 0 => ("IndependenceRows$Walks", "into", "[I", true)
  | 1 => ("IndependenceRows$Walks", "outOf", "[I", true)
  | 2 => ("IndependenceRows$Walks", "given", "I", false)
  | 3 => ("IndependenceRows$Walks", "meetable", "I", false)
  | 4 => ("IndependenceRows$Walks", "nowAlong", "I", false)
  | 5 => ("IndependenceRows$Walks", "nowAgainst", "I", false)
  | 6 => ("IndependenceRows$Walks", "seenAlong", "I", false)
  | _ => ("IndependenceRows$Walks", "seenAgainst", "I", false)
def ty_V : Nat → FieldType := fun k => match k with
  | 0 => .array .int
  | 1 => .array .int
  | 2 => .int
  | 3 => .int
  | 4 => .int
  | 5 => .int
  | 6 => .int
  | _ => .int
theorem nm_V : ∀ a, a < 8 → ∀ b, b < 8 → a ≠ b → (T_V a).2.1 ≠ (T_V b).2.1 := by decide +kernel
theorem tok_V : ∀ k, k < 8 → parseFieldDescriptor (T_V k).2.2.1 = some (ty_V k) := by decide +kernel
def R_Y : String := "IndependenceRowsModel"
def T_Y : u_T := fun k => match k with
  | 0 => ("IndependenceRowsModel", "places", "I", false)
  | 1 => ("IndependenceRowsModel", "arcs", "I", false)
  | 2 => ("IndependenceRowsModel", "parents", "[I", true)
  | 3 => ("IndependenceRowsModel", "held", "[I", true)
  | 4 => ("IndependenceRowsModel", "odds", "[I", true)
  | 5 => ("IndependenceRowsModel", "isKept", "Z", false)
  | 6 => ("IndependenceRowsModel", "keptPlaces", "I", false)
  | 7 => ("IndependenceRowsModel", "kept", "[I", true)
  | 8 => ("IndependenceRowsModel", "isCounted", "Z", false)
  | 9 => ("IndependenceRowsModel", "familySize", "I", false)
  | 10 => ("IndependenceRowsModel", "settledMask", "I", false)
  | 11 => ("IndependenceRowsModel", "counted", "[I", true)
  | 12 => ("IndependenceRowsModel", "children", "[I", true)
  | 13 => ("IndependenceRowsModel", "near", "[I", true)
  | 14 => ("IndependenceRowsModel", "layer", "[I", true)
  | 15 => ("IndependenceRowsModel", "nextLayer", "[I", true)
  | 16 => ("IndependenceRowsModel", "met", "[I", true)
  | 17 => ("IndependenceRowsModel", "weights", "[J", true)
  | 18 => ("IndependenceRowsModel", "sums", "[J", true)
  | 19 => ("IndependenceRowsModel", "separates", "[Z", true)
  | 20 => ("IndependenceRowsModel", "arcFrom", "[I", true)
  | 21 => ("IndependenceRowsModel", "arcTo", "[I", true)
  | _ => ("IndependenceRowsModel", "turned", "[I", true)
def ty_Y : Nat → FieldType := fun k => match k with
  | 0 => .int
  | 1 => .int
  | 2 => .array .int
  | 3 => .array .int
  | 4 => .array .int
  | 5 => .boolean
  | 6 => .int
  | 7 => .array .int
  | 8 => .boolean
  | 9 => .int
  | 10 => .int
  | 11 => .array .int
  | 12 => .array .int
  | 13 => .array .int
  | 14 => .array .int
  | 15 => .array .int
  | 16 => .array .int
  | 17 => .array .long
  | 18 => .array .long
  | 19 => .array .boolean
  | 20 => .array .int
  | 21 => .array .int
  | _ => .array .int
theorem nm_Y : ∀ a, a < 23 → ∀ b, b < 23 → a ≠ b → (T_Y a).2.1 ≠ (T_Y b).2.1 := by decide +kernel
theorem tok_Y : ∀ k, k < 23 → parseFieldDescriptor (T_Y k).2.2.1 = some (ty_Y k) := by decide +kernel
def vwCl : List vw_C := [(R_X, T_X, 10), (R_G, T_G, 4), (R_K, T_K, 7), (R_N, T_N, 2), (R_T, T_T, 3), (R_V, T_V, 8), (R_Y, T_Y, 23)]
def m_X_init : MethodName × ByteArray × Nat × Option FieldType := (⟨"IndependenceRows", "<init>", "()V"⟩, prog_1_method_1_code, 1, none)
def m_G_init : MethodName × ByteArray × Nat × Option FieldType := (⟨"IndependenceRows$Graph", "<init>", "()V"⟩, prog_2_method_1_code, 1, none)
def m_T_init : MethodName × ByteArray × Nat × Option FieldType := (⟨"IndependenceRows$Tables", "<init>", "()V"⟩, prog_5_method_1_code, 1, none)
def m_V_init : MethodName × ByteArray × Nat × Option FieldType := (⟨"IndependenceRows$Walks", "<init>", "()V"⟩, prog_6_method_1_code, 1, none)
def m_K_init : MethodName × ByteArray × Nat × Option FieldType := (⟨"IndependenceRows$Kin", "<init>", "()V"⟩, prog_3_method_1_code, 1, none)
def m_N_init : MethodName × ByteArray × Nat × Option FieldType := (⟨"IndependenceRows$Margin", "<init>", "()V"⟩, prog_4_method_1_code, 1, none)
def m_X_clear : MethodName × ByteArray × Nat × Option FieldType := (⟨"IndependenceRows", "clear", "()I"⟩, prog_1_method_2_code, 2, some .int)
def m_G_empty : MethodName × ByteArray × Nat × Option FieldType := (⟨"IndependenceRows$Graph", "empty", "()V"⟩, prog_2_method_2_code, 1, none)
def m_A_fillI : MethodName × ByteArray × Nat × Option FieldType := (⟨"java/util/Arrays", "fill", "([II)V"⟩, prog_11_method_103_code, 4, none)
def m_T_releaseAll : MethodName × ByteArray × Nat × Option FieldType := (⟨"IndependenceRows$Tables", "releaseAll", "()V"⟩, prog_5_method_3_code, 1, none)
def m_X_place : MethodName × ByteArray × Nat × Option FieldType := (⟨"IndependenceRows", "place", "()I"⟩, prog_1_method_3_code, 2, some .int)
def m_T_startRows : MethodName × ByteArray × Nat × Option FieldType := (⟨"IndependenceRows$Tables", "startRows", "(I)V"⟩, prog_5_method_2_code, 2, none)
def m_X_arc : MethodName × ByteArray × Nat × Option FieldType := (⟨"IndependenceRows", "arc", "(II)I"⟩, prog_1_method_4_code, 3, some .int)
def m_X_isPair : MethodName × ByteArray × Nat × Option FieldType := (⟨"IndependenceRows", "isPair", "(II)Z"⟩, prog_1_method_24_code, 3, some .boolean)
def m_X_isPlace : MethodName × ByteArray × Nat × Option FieldType := (⟨"IndependenceRows", "isPlace", "(I)Z"⟩, prog_1_method_23_code, 2, some .boolean)
def m_G_neighbours : MethodName × ByteArray × Nat × Option FieldType := (⟨"IndependenceRows$Graph", "neighbours", "(I)I"⟩, prog_2_method_7_code, 2, some .int)
def m_X_has : MethodName × ByteArray × Nat × Option FieldType := (⟨"IndependenceRows", "has", "(II)Z"⟩, prog_1_method_32_code, 2, some .boolean)
def m_X_bit : MethodName × ByteArray × Nat × Option FieldType := (⟨"IndependenceRows", "bit", "(I)I"⟩, prog_1_method_31_code, 1, some .int)
def m_X_closure : MethodName × ByteArray × Nat × Option FieldType := (⟨"IndependenceRows", "closure", "([II)I"⟩, prog_1_method_34_code, 5, some .int)
def m_X_union : MethodName × ByteArray × Nat × Option FieldType := (⟨"IndependenceRows", "union", "([II)I"⟩, prog_1_method_33_code, 4, some .int)
def m_G_join : MethodName × ByteArray × Nat × Option FieldType := (⟨"IndependenceRows$Graph", "join", "(II)V"⟩, prog_2_method_4_code, 3, none)
def m_X_cut : MethodName × ByteArray × Nat × Option FieldType := (⟨"IndependenceRows", "cut", "(II)I"⟩, prog_1_method_5_code, 3, some .int)
def m_G_part : MethodName × ByteArray × Nat × Option FieldType := (⟨"IndependenceRows$Graph", "part", "(II)V"⟩, prog_2_method_5_code, 3, none)
def m_X_odds : MethodName × ByteArray × Nat × Option FieldType := (⟨"IndependenceRows", "odds", "(III)I"⟩, prog_1_method_6_code, 5, some .int)
def m_X_isRow : MethodName × ByteArray × Nat × Option FieldType := (⟨"IndependenceRows", "isRow", "(II)Z"⟩, prog_1_method_27_code, 3, some .boolean)
def m_G_rows : MethodName × ByteArray × Nat × Option FieldType := (⟨"IndependenceRows$Graph", "rows", "(I)I"⟩, prog_2_method_8_code, 2, some .int)
def m_I_bitCount : MethodName × ByteArray × Nat × Option FieldType := (⟨"java/lang/Integer", "bitCount", "(I)I"⟩, prog_9_method_49_code, 1, some .int)
def m_X_hold : MethodName × ByteArray × Nat × Option FieldType := (⟨"IndependenceRows", "hold", "(II)I"⟩, prog_1_method_7_code, 4, some .int)
def m_T_heldAt : MethodName × ByteArray × Nat × Option FieldType := (⟨"IndependenceRows$Tables", "heldAt", "(I)I"⟩, prog_5_method_5_code, 2, some .int)
def m_T_setHeld : MethodName × ByteArray × Nat × Option FieldType := (⟨"IndependenceRows$Tables", "setHeld", "(II)V"⟩, prog_5_method_4_code, 3, none)
def m_X_told : MethodName × ByteArray × Nat × Option FieldType := (⟨"IndependenceRows", "told", "(II)I"⟩, prog_1_method_8_code, 3, some .int)
def m_X_of : MethodName × ByteArray × Nat × Option FieldType := (⟨"IndependenceRows", "of", "(II)I"⟩, prog_1_method_9_code, 3, some .int)
def m_V_lookAt : MethodName × ByteArray × Nat × Option FieldType := (⟨"IndependenceRows$Walks", "lookAt", "(LIndependenceRows$Graph;II)V"⟩, prog_6_method_2_code, 5, none)
def m_V_below : MethodName × ByteArray × Nat × Option FieldType := (⟨"IndependenceRows$Walks", "below", "(I)I"⟩, prog_6_method_3_code, 2, some .int)
def m_X_separated : MethodName × ByteArray × Nat × Option FieldType := (⟨"IndependenceRows", "separated", "(III)I"⟩, prog_1_method_10_code, 4, some .int)
def m_X_isQuestion : MethodName × ByteArray × Nat × Option FieldType := (⟨"IndependenceRows", "isQuestion", "(III)Z"⟩, prog_1_method_26_code, 4, some .boolean)
def m_X_isSet : MethodName × ByteArray × Nat × Option FieldType := (⟨"IndependenceRows", "isSet", "(I)Z"⟩, prog_1_method_25_code, 2, some .boolean)
def m_G_everyPlace : MethodName × ByteArray × Nat × Option FieldType := (⟨"IndependenceRows$Graph", "everyPlace", "()I"⟩, prog_2_method_6_code, 1, some .int)
def m_V_shortest : MethodName × ByteArray × Nat × Option FieldType := (⟨"IndependenceRows$Walks", "shortest", "(III)I"⟩, prog_6_method_4_code, 5, some .int)
def m_V_start : MethodName × ByteArray × Nat × Option FieldType := (⟨"IndependenceRows$Walks", "start", "(II)V"⟩, prog_6_method_6_code, 3, none)
def m_V_step : MethodName × ByteArray × Nat × Option FieldType := (⟨"IndependenceRows$Walks", "step", "()V"⟩, prog_6_method_7_code, 4, none)
def m_X_answer : MethodName × ByteArray × Nat × Option FieldType := (⟨"IndependenceRows", "answer", "(Z)I"⟩, prog_1_method_30_code, 1, some .int)
def m_X_walk : MethodName × ByteArray × Nat × Option FieldType := (⟨"IndependenceRows", "walk", "(III)I"⟩, prog_1_method_11_code, 4, some .int)
def m_X_weight : MethodName × ByteArray × Nat × Option FieldType := (⟨"IndependenceRows", "weight", "(II)J"⟩, prog_1_method_12_code, 7, some .long)
def m_T_product : MethodName × ByteArray × Nat × Option FieldType := (⟨"IndependenceRows$Tables", "product", "(LIndependenceRows$Graph;I)J"⟩, prog_5_method_6_code, 6, some .long)
def m_T_factor : MethodName × ByteArray × Nat × Option FieldType := (⟨"IndependenceRows$Tables", "factor", "(LIndependenceRows$Graph;II)I"⟩, prog_5_method_7_code, 5, some .int)
def m_T_rowIn : MethodName × ByteArray × Nat × Option FieldType := (⟨"IndependenceRows$Tables", "rowIn", "(II)I"⟩, prog_5_method_8_code, 5, some .int)
def m_X_independent : MethodName × ByteArray × Nat × Option FieldType := (⟨"IndependenceRows", "independent", "(III)I"⟩, prog_1_method_13_code, 4, some .int)
def m_X_leastDifference : MethodName × ByteArray × Nat × Option FieldType := (⟨"IndependenceRows", "leastDifference", "(III)I"⟩, prog_1_method_28_code, 9, some .int)
def m_N_start : MethodName × ByteArray × Nat × Option FieldType := (⟨"IndependenceRows$Margin", "start", "(I)V"⟩, prog_4_method_2_code, 2, none)
def m_A_fillJ : MethodName × ByteArray × Nat × Option FieldType := (⟨"java/util/Arrays", "fill", "([JJ)V"⟩, prog_11_method_101_code, 5, none)
def m_N_add : MethodName × ByteArray × Nat × Option FieldType := (⟨"IndependenceRows$Margin", "add", "(IJ)V"⟩, prog_4_method_3_code, 4, none)
def m_N_sum : MethodName × ByteArray × Nat × Option FieldType := (⟨"IndependenceRows$Margin", "sum", "(I)J"⟩, prog_4_method_4_code, 2, some .long)
def m_X_differ : MethodName × ByteArray × Nat × Option FieldType := (⟨"IndependenceRows", "differ", "(III)I"⟩, prog_1_method_14_code, 4, some .int)
def m_X_blanket : MethodName × ByteArray × Nat × Option FieldType := (⟨"IndependenceRows", "blanket", "(I)I"⟩, prog_1_method_15_code, 2, some .int)
def m_X_fewest : MethodName × ByteArray × Nat × Option FieldType := (⟨"IndependenceRows", "fewest", "(III)I"⟩, prog_1_method_29_code, 8, some .int)
def m_V_reached : MethodName × ByteArray × Nat × Option FieldType := (⟨"IndependenceRows$Walks", "reached", "(II)I"⟩, prog_6_method_5_code, 4, some .int)
def m_X_least : MethodName × ByteArray × Nat × Option FieldType := (⟨"IndependenceRows", "least", "(II)I"⟩, prog_1_method_16_code, 3, some .int)
def m_X_enough : MethodName × ByteArray × Nat × Option FieldType := (⟨"IndependenceRows", "enough", "(III)I"⟩, prog_1_method_17_code, 4, some .int)
def m_X_keep : MethodName × ByteArray × Nat × Option FieldType := (⟨"IndependenceRows", "keep", "()I"⟩, prog_1_method_18_code, 1, some .int)
def m_G_copy : MethodName × ByteArray × Nat × Option FieldType := (⟨"IndependenceRows$Graph", "copy", "(LIndependenceRows$Graph;)V"⟩, prog_2_method_3_code, 2, none)
def m_X_alike : MethodName × ByteArray × Nat × Option FieldType := (⟨"IndependenceRows", "alike", "()I"⟩, prog_1_method_19_code, 1, some .int)
def m_G_tellsTheSameAs : MethodName × ByteArray × Nat × Option FieldType := (⟨"IndependenceRows$Graph", "tellsTheSameAs", "(LIndependenceRows$Graph;)Z"⟩, prog_2_method_10_code, 4, some .boolean)
def m_G_strangers : MethodName × ByteArray × Nat × Option FieldType := (⟨"IndependenceRows$Graph", "strangers", "(II)I"⟩, prog_2_method_9_code, 3, some .int)
def m_X_settled : MethodName × ByteArray × Nat × Option FieldType := (⟨"IndependenceRows", "settled", "(II)I"⟩, prog_1_method_20_code, 3, some .int)
def m_K_explore : MethodName × ByteArray × Nat × Option FieldType := (⟨"IndependenceRows$Kin", "explore", "(LIndependenceRows$Graph;)V"⟩, prog_3_method_2_code, 2, none)
def m_K_listArcs : MethodName × ByteArray × Nat × Option FieldType := (⟨"IndependenceRows$Kin", "listArcs", "()V"⟩, prog_3_method_3_code, 3, none)
def m_K_direct : MethodName × ByteArray × Nat × Option FieldType := (⟨"IndependenceRows$Kin", "direct", "(II)V"⟩, prog_3_method_5_code, 5, none)
def m_K_directOne : MethodName × ByteArray × Nat × Option FieldType := (⟨"IndependenceRows$Kin", "directOne", "(IIII)V"⟩, prog_3_method_6_code, 5, none)
def m_K_meetsAsFirst : MethodName × ByteArray × Nat × Option FieldType := (⟨"IndependenceRows$Kin", "meetsAsFirst", "(II)Z"⟩, prog_3_method_7_code, 4, some .boolean)
def m_K_isTurned : MethodName × ByteArray × Nat × Option FieldType := (⟨"IndependenceRows$Kin", "isTurned", "(II)Z"⟩, prog_3_method_4_code, 4, some .boolean)
def m_X_family : MethodName × ByteArray × Nat × Option FieldType := (⟨"IndependenceRows", "family", "()I"⟩, prog_1_method_21_code, 1, some .int)
def m_X_count : MethodName × ByteArray × Nat × Option FieldType := (⟨"IndependenceRows", "count", "(I)I"⟩, prog_1_method_22_code, 2, some .int)
def m_Y_init : MethodName × ByteArray × Nat × Option FieldType := (⟨"IndependenceRowsModel", "<init>", "()V"⟩, prog_8_method_1_code, 1, none)
def m_Y_begin : MethodName × ByteArray × Nat × Option FieldType := (⟨"IndependenceRowsModel", "begin", "()V"⟩, prog_8_method_2_code, 2, none)
def m_Y_clear : MethodName × ByteArray × Nat × Option FieldType := (⟨"IndependenceRowsModel", "clear", "()I"⟩, prog_8_method_3_code, 2, some .int)
def m_Y_place : MethodName × ByteArray × Nat × Option FieldType := (⟨"IndependenceRowsModel", "place", "()I"⟩, prog_8_method_9_code, 2, some .int)
def m_Y_evenOdds : MethodName × ByteArray × Nat × Option FieldType := (⟨"IndependenceRowsModel", "evenOdds", "(I)V"⟩, prog_8_method_8_code, 3, none)
def m_Y_arc : MethodName × ByteArray × Nat × Option FieldType := (⟨"IndependenceRowsModel", "arc", "(II)I"⟩, prog_8_method_11_code, 3, some .int)
def m_Y_isPlace : MethodName × ByteArray × Nat × Option FieldType := (⟨"IndependenceRowsModel", "isPlace", "(I)Z"⟩, prog_8_method_4_code, 2, some .boolean)
def m_Y_aboveOf : MethodName × ByteArray × Nat × Option FieldType := (⟨"IndependenceRowsModel", "aboveOf", "([II)I"⟩, prog_8_method_10_code, 6, some .int)
def m_Y_cut : MethodName × ByteArray × Nat × Option FieldType := (⟨"IndependenceRowsModel", "cut", "(II)I"⟩, prog_8_method_13_code, 3, some .int)
def m_Y_isArc : MethodName × ByteArray × Nat × Option FieldType := (⟨"IndependenceRowsModel", "isArc", "(II)Z"⟩, prog_8_method_12_code, 3, some .boolean)
def m_Y_odds : MethodName × ByteArray × Nat × Option FieldType := (⟨"IndependenceRowsModel", "odds", "(III)I"⟩, prog_8_method_15_code, 5, some .int)
def m_Y_isRow : MethodName × ByteArray × Nat × Option FieldType := (⟨"IndependenceRowsModel", "isRow", "(II)Z"⟩, prog_8_method_14_code, 3, some .boolean)
def m_Y_many : MethodName × ByteArray × Nat × Option FieldType := (⟨"IndependenceRowsModel", "many", "(I)I"⟩, prog_8_method_7_code, 3, some .int)
def m_Y_hold : MethodName × ByteArray × Nat × Option FieldType := (⟨"IndependenceRowsModel", "hold", "(II)I"⟩, prog_8_method_16_code, 4, some .int)
def m_Y_told : MethodName × ByteArray × Nat × Option FieldType := (⟨"IndependenceRowsModel", "told", "(II)I"⟩, prog_8_method_17_code, 3, some .int)
def m_Y_of : MethodName × ByteArray × Nat × Option FieldType := (⟨"IndependenceRowsModel", "of", "(II)I"⟩, prog_8_method_20_code, 5, some .int)
def m_Y_countArcs : MethodName × ByteArray × Nat × Option FieldType := (⟨"IndependenceRowsModel", "countArcs", "(I)V"⟩, prog_8_method_18_code, 4, none)
def m_Y_belowOf : MethodName × ByteArray × Nat × Option FieldType := (⟨"IndependenceRowsModel", "belowOf", "(I)I"⟩, prog_8_method_19_code, 2, some .int)
def m_Y_separated : MethodName × ByteArray × Nat × Option FieldType := (⟨"IndependenceRowsModel", "separated", "(III)I"⟩, prog_8_method_22_code, 4, some .int)
def m_Y_isAsked : MethodName × ByteArray × Nat × Option FieldType := (⟨"IndependenceRowsModel", "isAsked", "(III)Z"⟩, prog_8_method_6_code, 4, some .boolean)
def m_Y_isSet : MethodName × ByteArray × Nat × Option FieldType := (⟨"IndependenceRowsModel", "isSet", "(I)Z"⟩, prog_8_method_5_code, 2, some .boolean)
def m_Y_isSeparated : MethodName × ByteArray × Nat × Option FieldType := (⟨"IndependenceRowsModel", "isSeparated", "([IIII)Z"⟩, prog_8_method_21_code, 9, some .boolean)
def m_Y_walk : MethodName × ByteArray × Nat × Option FieldType := (⟨"IndependenceRowsModel", "walk", "(III)I"⟩, prog_8_method_23_code, 10, some .int)
def m_Y_children2 : MethodName × ByteArray × Nat × Option FieldType := (⟨"IndependenceRowsModel", "children2", "(II)I"⟩, prog_8_method_24_code, 3, some .int)
def m_Y_weight : MethodName × ByteArray × Nat × Option FieldType := (⟨"IndependenceRowsModel", "weight", "(II)J"⟩, prog_8_method_26_code, 6, some .long)
def m_Y_weigh : MethodName × ByteArray × Nat × Option FieldType := (⟨"IndependenceRowsModel", "weigh", "()V"⟩, prog_8_method_25_code, 9, none)
def m_Y_independent : MethodName × ByteArray × Nat × Option FieldType := (⟨"IndependenceRowsModel", "independent", "(III)I"⟩, prog_8_method_28_code, 4, some .int)
def m_Y_hangs : MethodName × ByteArray × Nat × Option FieldType := (⟨"IndependenceRowsModel", "hangs", "(III)I"⟩, prog_8_method_27_code, 8, some .int)
def m_Y_differ : MethodName × ByteArray × Nat × Option FieldType := (⟨"IndependenceRowsModel", "differ", "(III)I"⟩, prog_8_method_29_code, 4, some .int)
def m_Y_blanket : MethodName × ByteArray × Nat × Option FieldType := (⟨"IndependenceRowsModel", "blanket", "(I)I"⟩, prog_8_method_30_code, 7, some .int)
def m_Y_least : MethodName × ByteArray × Nat × Option FieldType := (⟨"IndependenceRowsModel", "least", "(II)I"⟩, prog_8_method_31_code, 6, some .int)
def m_Y_enough : MethodName × ByteArray × Nat × Option FieldType := (⟨"IndependenceRowsModel", "enough", "(III)I"⟩, prog_8_method_32_code, 4, some .int)
def m_Y_keep : MethodName × ByteArray × Nat × Option FieldType := (⟨"IndependenceRowsModel", "keep", "()I"⟩, prog_8_method_33_code, 2, some .int)
def m_Y_alike : MethodName × ByteArray × Nat × Option FieldType := (⟨"IndependenceRowsModel", "alike", "()I"⟩, prog_8_method_36_code, 1, some .int)
def m_Y_learn : MethodName × ByteArray × Nat × Option FieldType := (⟨"IndependenceRowsModel", "learn", "()V"⟩, prog_8_method_34_code, 5, none)
def m_Y_tellsAlike : MethodName × ByteArray × Nat × Option FieldType := (⟨"IndependenceRowsModel", "tellsAlike", "([I)Z"⟩, prog_8_method_35_code, 6, some .boolean)
def m_Y_settled : MethodName × ByteArray × Nat × Option FieldType := (⟨"IndependenceRowsModel", "settled", "(II)I"⟩, prog_8_method_40_code, 6, some .int)
def m_Y_countFamily : MethodName × ByteArray × Nat × Option FieldType := (⟨"IndependenceRowsModel", "countFamily", "()V"⟩, prog_8_method_39_code, 6, none)
def m_Y_listArcs : MethodName × ByteArray × Nat × Option FieldType := (⟨"IndependenceRowsModel", "listArcs", "()I"⟩, prog_8_method_37_code, 4, some .int)
def m_Y_hasNoRing : MethodName × ByteArray × Nat × Option FieldType := (⟨"IndependenceRowsModel", "hasNoRing", "()Z"⟩, prog_8_method_38_code, 4, some .boolean)
def m_Y_family : MethodName × ByteArray × Nat × Option FieldType := (⟨"IndependenceRowsModel", "family", "()I"⟩, prog_8_method_41_code, 1, some .int)
def m_Y_count : MethodName × ByteArray × Nat × Option FieldType := (⟨"IndependenceRowsModel", "count", "(I)I"⟩, prog_8_method_42_code, 4, some .int)
def m_L_law : MethodName × ByteArray × Nat × Option FieldType := (x, code, maxLocals, ret)
end
section
theorem d_X_init_0 : decode prog_1_method_1_code 0 = .ok (.aload_n 0, 1) := by decide +kernel
theorem d_X_init_1 : decode prog_1_method_1_code 1 = .ok (.invokespecial 3, 3) := by decide +kernel
theorem d_X_init_4 : decode prog_1_method_1_code 4 = .ok (.aload_n 0, 1) := by decide +kernel
theorem d_X_init_5 : decode prog_1_method_1_code 5 = .ok (.new 9, 3) := by decide +kernel
theorem d_X_init_8 : decode prog_1_method_1_code 8 = .ok (.dup, 1) := by decide +kernel
theorem d_X_init_9 : decode prog_1_method_1_code 9 = .ok (.invokespecial 11, 3) := by decide +kernel
theorem d_X_init_12 : decode prog_1_method_1_code 12 = .ok (.putfield 12, 3) := by decide +kernel
theorem d_X_init_15 : decode prog_1_method_1_code 15 = .ok (.aload_n 0, 1) := by decide +kernel
theorem d_X_init_16 : decode prog_1_method_1_code 16 = .ok (.new 9, 3) := by decide +kernel
theorem d_X_init_19 : decode prog_1_method_1_code 19 = .ok (.dup, 1) := by decide +kernel
theorem d_X_init_20 : decode prog_1_method_1_code 20 = .ok (.invokespecial 11, 3) := by decide +kernel
theorem d_X_init_23 : decode prog_1_method_1_code 23 = .ok (.putfield 16, 3) := by decide +kernel
theorem d_X_init_26 : decode prog_1_method_1_code 26 = .ok (.aload_n 0, 1) := by decide +kernel
theorem d_X_init_27 : decode prog_1_method_1_code 27 = .ok (.iconst 0, 1) := by decide +kernel
theorem d_X_init_28 : decode prog_1_method_1_code 28 = .ok (.putfield 19, 3) := by decide +kernel
theorem d_X_init_31 : decode prog_1_method_1_code 31 = .ok (.aload_n 0, 1) := by decide +kernel
theorem d_X_init_32 : decode prog_1_method_1_code 32 = .ok (.new 23, 3) := by decide +kernel
theorem d_X_init_35 : decode prog_1_method_1_code 35 = .ok (.dup, 1) := by decide +kernel
theorem d_X_init_36 : decode prog_1_method_1_code 36 = .ok (.invokespecial 25, 3) := by decide +kernel
theorem d_X_init_39 : decode prog_1_method_1_code 39 = .ok (.putfield 26, 3) := by decide +kernel
theorem d_X_init_42 : decode prog_1_method_1_code 42 = .ok (.aload_n 0, 1) := by decide +kernel
theorem d_X_init_43 : decode prog_1_method_1_code 43 = .ok (.new 30, 3) := by decide +kernel
theorem d_X_init_46 : decode prog_1_method_1_code 46 = .ok (.dup, 1) := by decide +kernel
theorem d_X_init_47 : decode prog_1_method_1_code 47 = .ok (.invokespecial 32, 3) := by decide +kernel
theorem d_X_init_50 : decode prog_1_method_1_code 50 = .ok (.putfield 33, 3) := by decide +kernel
theorem d_X_init_53 : decode prog_1_method_1_code 53 = .ok (.aload_n 0, 1) := by decide +kernel
theorem d_X_init_54 : decode prog_1_method_1_code 54 = .ok (.new 37, 3) := by decide +kernel
theorem d_X_init_57 : decode prog_1_method_1_code 57 = .ok (.dup, 1) := by decide +kernel
theorem d_X_init_58 : decode prog_1_method_1_code 58 = .ok (.invokespecial 39, 3) := by decide +kernel
theorem d_X_init_61 : decode prog_1_method_1_code 61 = .ok (.putfield 40, 3) := by decide +kernel
theorem d_X_init_64 : decode prog_1_method_1_code 64 = .ok (.aload_n 0, 1) := by decide +kernel
theorem d_X_init_65 : decode prog_1_method_1_code 65 = .ok (.new 44, 3) := by decide +kernel
theorem d_X_init_68 : decode prog_1_method_1_code 68 = .ok (.dup, 1) := by decide +kernel
theorem d_X_init_69 : decode prog_1_method_1_code 69 = .ok (.invokespecial 46, 3) := by decide +kernel
theorem d_X_init_72 : decode prog_1_method_1_code 72 = .ok (.putfield 47, 3) := by decide +kernel
theorem d_X_init_75 : decode prog_1_method_1_code 75 = .ok (.aload_n 0, 1) := by decide +kernel
theorem d_X_init_76 : decode prog_1_method_1_code 76 = .ok (.new 44, 3) := by decide +kernel
theorem d_X_init_79 : decode prog_1_method_1_code 79 = .ok (.dup, 1) := by decide +kernel
theorem d_X_init_80 : decode prog_1_method_1_code 80 = .ok (.invokespecial 46, 3) := by decide +kernel
theorem d_X_init_83 : decode prog_1_method_1_code 83 = .ok (.putfield 51, 3) := by decide +kernel
theorem d_X_init_86 : decode prog_1_method_1_code 86 = .ok (.aload_n 0, 1) := by decide +kernel
theorem d_X_init_87 : decode prog_1_method_1_code 87 = .ok (.new 44, 3) := by decide +kernel
theorem d_X_init_90 : decode prog_1_method_1_code 90 = .ok (.dup, 1) := by decide +kernel
theorem d_X_init_91 : decode prog_1_method_1_code 91 = .ok (.invokespecial 46, 3) := by decide +kernel
theorem d_X_init_94 : decode prog_1_method_1_code 94 = .ok (.putfield 54, 3) := by decide +kernel
theorem d_X_init_97 : decode prog_1_method_1_code 97 = .ok (.aload_n 0, 1) := by decide +kernel
theorem d_X_init_98 : decode prog_1_method_1_code 98 = .ok (.new 44, 3) := by decide +kernel
theorem d_X_init_101 : decode prog_1_method_1_code 101 = .ok (.dup, 1) := by decide +kernel
theorem d_X_init_102 : decode prog_1_method_1_code 102 = .ok (.invokespecial 46, 3) := by decide +kernel
theorem d_X_init_105 : decode prog_1_method_1_code 105 = .ok (.putfield 57, 3) := by decide +kernel
theorem d_X_init_108 : decode prog_1_method_1_code 108 = .ok (.return_, 1) := by decide +kernel
theorem d_G_init_0 : decode prog_2_method_1_code 0 = .ok (.aload_n 0, 1) := by decide +kernel
theorem d_G_init_1 : decode prog_2_method_1_code 1 = .ok (.invokespecial 3, 3) := by decide +kernel
theorem d_G_init_4 : decode prog_2_method_1_code 4 = .ok (.aload_n 0, 1) := by decide +kernel
theorem d_G_init_5 : decode prog_2_method_1_code 5 = .ok (.iconst 0, 1) := by decide +kernel
theorem d_G_init_6 : decode prog_2_method_1_code 6 = .ok (.putfield 9, 3) := by decide +kernel
theorem d_G_init_9 : decode prog_2_method_1_code 9 = .ok (.aload_n 0, 1) := by decide +kernel
theorem d_G_init_10 : decode prog_2_method_1_code 10 = .ok (.iconst 0, 1) := by decide +kernel
theorem d_G_init_11 : decode prog_2_method_1_code 11 = .ok (.putfield 15, 3) := by decide +kernel
theorem d_G_init_14 : decode prog_2_method_1_code 14 = .ok (.aload_n 0, 1) := by decide +kernel
theorem d_G_init_15 : decode prog_2_method_1_code 15 = .ok (.bipush 8, 2) := by decide +kernel
theorem d_G_init_17 : decode prog_2_method_1_code 17 = .ok (.newarray .int, 2) := by decide +kernel
theorem d_G_init_19 : decode prog_2_method_1_code 19 = .ok (.putfield 18, 3) := by decide +kernel
theorem d_G_init_22 : decode prog_2_method_1_code 22 = .ok (.aload_n 0, 1) := by decide +kernel
theorem d_G_init_23 : decode prog_2_method_1_code 23 = .ok (.bipush 8, 2) := by decide +kernel
theorem d_G_init_25 : decode prog_2_method_1_code 25 = .ok (.newarray .int, 2) := by decide +kernel
theorem d_G_init_27 : decode prog_2_method_1_code 27 = .ok (.putfield 22, 3) := by decide +kernel
theorem d_G_init_30 : decode prog_2_method_1_code 30 = .ok (.return_, 1) := by decide +kernel
theorem d_T_init_0 : decode prog_5_method_1_code 0 = .ok (.aload_n 0, 1) := by decide +kernel
theorem d_T_init_1 : decode prog_5_method_1_code 1 = .ok (.invokespecial 3, 3) := by decide +kernel
theorem d_T_init_4 : decode prog_5_method_1_code 4 = .ok (.aload_n 0, 1) := by decide +kernel
theorem d_T_init_5 : decode prog_5_method_1_code 5 = .ok (.bipush 8, 2) := by decide +kernel
theorem d_T_init_7 : decode prog_5_method_1_code 7 = .ok (.sipush 128, 3) := by decide +kernel
theorem d_T_init_10 : decode prog_5_method_1_code 10 = .ok (.multianewarray 9 2, 4) := by decide +kernel
theorem d_T_init_14 : decode prog_5_method_1_code 14 = .ok (.putfield 11, 3) := by decide +kernel
theorem d_T_init_17 : decode prog_5_method_1_code 17 = .ok (.aload_n 0, 1) := by decide +kernel
theorem d_T_init_18 : decode prog_5_method_1_code 18 = .ok (.iconst 0, 1) := by decide +kernel
theorem d_T_init_19 : decode prog_5_method_1_code 19 = .ok (.putfield 16, 3) := by decide +kernel
theorem d_T_init_22 : decode prog_5_method_1_code 22 = .ok (.aload_n 0, 1) := by decide +kernel
theorem d_T_init_23 : decode prog_5_method_1_code 23 = .ok (.iconst 0, 1) := by decide +kernel
theorem d_T_init_24 : decode prog_5_method_1_code 24 = .ok (.putfield 20, 3) := by decide +kernel
theorem d_T_init_27 : decode prog_5_method_1_code 27 = .ok (.return_, 1) := by decide +kernel
theorem d_V_init_0 : decode prog_6_method_1_code 0 = .ok (.aload_n 0, 1) := by decide +kernel
theorem d_V_init_1 : decode prog_6_method_1_code 1 = .ok (.invokespecial 3, 3) := by decide +kernel
theorem d_V_init_4 : decode prog_6_method_1_code 4 = .ok (.aload_n 0, 1) := by decide +kernel
theorem d_V_init_5 : decode prog_6_method_1_code 5 = .ok (.bipush 8, 2) := by decide +kernel
theorem d_V_init_7 : decode prog_6_method_1_code 7 = .ok (.newarray .int, 2) := by decide +kernel
theorem d_V_init_9 : decode prog_6_method_1_code 9 = .ok (.putfield 9, 3) := by decide +kernel
theorem d_V_init_12 : decode prog_6_method_1_code 12 = .ok (.aload_n 0, 1) := by decide +kernel
theorem d_V_init_13 : decode prog_6_method_1_code 13 = .ok (.bipush 8, 2) := by decide +kernel
theorem d_V_init_15 : decode prog_6_method_1_code 15 = .ok (.newarray .int, 2) := by decide +kernel
theorem d_V_init_17 : decode prog_6_method_1_code 17 = .ok (.putfield 15, 3) := by decide +kernel
theorem d_V_init_20 : decode prog_6_method_1_code 20 = .ok (.aload_n 0, 1) := by decide +kernel
theorem d_V_init_21 : decode prog_6_method_1_code 21 = .ok (.iconst 0, 1) := by decide +kernel
theorem d_V_init_22 : decode prog_6_method_1_code 22 = .ok (.putfield 18, 3) := by decide +kernel
theorem d_V_init_25 : decode prog_6_method_1_code 25 = .ok (.aload_n 0, 1) := by decide +kernel
theorem d_V_init_26 : decode prog_6_method_1_code 26 = .ok (.iconst 0, 1) := by decide +kernel
theorem d_V_init_27 : decode prog_6_method_1_code 27 = .ok (.putfield 22, 3) := by decide +kernel
theorem d_V_init_30 : decode prog_6_method_1_code 30 = .ok (.aload_n 0, 1) := by decide +kernel
theorem d_V_init_31 : decode prog_6_method_1_code 31 = .ok (.iconst 0, 1) := by decide +kernel
theorem d_V_init_32 : decode prog_6_method_1_code 32 = .ok (.putfield 25, 3) := by decide +kernel
theorem d_V_init_35 : decode prog_6_method_1_code 35 = .ok (.aload_n 0, 1) := by decide +kernel
theorem d_V_init_36 : decode prog_6_method_1_code 36 = .ok (.iconst 0, 1) := by decide +kernel
theorem d_V_init_37 : decode prog_6_method_1_code 37 = .ok (.putfield 28, 3) := by decide +kernel
theorem d_V_init_40 : decode prog_6_method_1_code 40 = .ok (.aload_n 0, 1) := by decide +kernel
theorem d_V_init_41 : decode prog_6_method_1_code 41 = .ok (.iconst 0, 1) := by decide +kernel
theorem d_V_init_42 : decode prog_6_method_1_code 42 = .ok (.putfield 31, 3) := by decide +kernel
theorem d_V_init_45 : decode prog_6_method_1_code 45 = .ok (.aload_n 0, 1) := by decide +kernel
theorem d_V_init_46 : decode prog_6_method_1_code 46 = .ok (.iconst 0, 1) := by decide +kernel
theorem d_V_init_47 : decode prog_6_method_1_code 47 = .ok (.putfield 34, 3) := by decide +kernel
theorem d_V_init_50 : decode prog_6_method_1_code 50 = .ok (.return_, 1) := by decide +kernel
theorem d_K_init_0 : decode prog_3_method_1_code 0 = .ok (.aload_n 0, 1) := by decide +kernel
theorem d_K_init_1 : decode prog_3_method_1_code 1 = .ok (.invokespecial 3, 3) := by decide +kernel
theorem d_K_init_4 : decode prog_3_method_1_code 4 = .ok (.aload_n 0, 1) := by decide +kernel
theorem d_K_init_5 : decode prog_3_method_1_code 5 = .ok (.new 9, 3) := by decide +kernel
theorem d_K_init_8 : decode prog_3_method_1_code 8 = .ok (.dup, 1) := by decide +kernel
theorem d_K_init_9 : decode prog_3_method_1_code 9 = .ok (.invokespecial 11, 3) := by decide +kernel
theorem d_K_init_12 : decode prog_3_method_1_code 12 = .ok (.putfield 12, 3) := by decide +kernel
theorem d_K_init_15 : decode prog_3_method_1_code 15 = .ok (.aload_n 0, 1) := by decide +kernel
theorem d_K_init_16 : decode prog_3_method_1_code 16 = .ok (.iconst 0, 1) := by decide +kernel
theorem d_K_init_17 : decode prog_3_method_1_code 17 = .ok (.putfield 18, 3) := by decide +kernel
theorem d_K_init_20 : decode prog_3_method_1_code 20 = .ok (.aload_n 0, 1) := by decide +kernel
theorem d_K_init_21 : decode prog_3_method_1_code 21 = .ok (.bipush 10, 2) := by decide +kernel
theorem d_K_init_23 : decode prog_3_method_1_code 23 = .ok (.newarray .int, 2) := by decide +kernel
theorem d_K_init_25 : decode prog_3_method_1_code 25 = .ok (.putfield 22, 3) := by decide +kernel
theorem d_K_init_28 : decode prog_3_method_1_code 28 = .ok (.aload_n 0, 1) := by decide +kernel
theorem d_K_init_29 : decode prog_3_method_1_code 29 = .ok (.bipush 10, 2) := by decide +kernel
theorem d_K_init_31 : decode prog_3_method_1_code 31 = .ok (.newarray .int, 2) := by decide +kernel
theorem d_K_init_33 : decode prog_3_method_1_code 33 = .ok (.putfield 26, 3) := by decide +kernel
theorem d_K_init_36 : decode prog_3_method_1_code 36 = .ok (.aload_n 0, 1) := by decide +kernel
theorem d_K_init_37 : decode prog_3_method_1_code 37 = .ok (.bipush 8, 2) := by decide +kernel
theorem d_K_init_39 : decode prog_3_method_1_code 39 = .ok (.newarray .int, 2) := by decide +kernel
theorem d_K_init_41 : decode prog_3_method_1_code 41 = .ok (.putfield 29, 3) := by decide +kernel
theorem d_K_init_44 : decode prog_3_method_1_code 44 = .ok (.aload_n 0, 1) := by decide +kernel
theorem d_K_init_45 : decode prog_3_method_1_code 45 = .ok (.iconst 0, 1) := by decide +kernel
theorem d_K_init_46 : decode prog_3_method_1_code 46 = .ok (.putfield 32, 3) := by decide +kernel
theorem d_K_init_49 : decode prog_3_method_1_code 49 = .ok (.aload_n 0, 1) := by decide +kernel
theorem d_K_init_50 : decode prog_3_method_1_code 50 = .ok (.iconst 0, 1) := by decide +kernel
theorem d_K_init_51 : decode prog_3_method_1_code 51 = .ok (.putfield 35, 3) := by decide +kernel
theorem d_K_init_54 : decode prog_3_method_1_code 54 = .ok (.return_, 1) := by decide +kernel
theorem d_N_init_0 : decode prog_4_method_1_code 0 = .ok (.aload_n 0, 1) := by decide +kernel
theorem d_N_init_1 : decode prog_4_method_1_code 1 = .ok (.invokespecial 3, 3) := by decide +kernel
theorem d_N_init_4 : decode prog_4_method_1_code 4 = .ok (.aload_n 0, 1) := by decide +kernel
theorem d_N_init_5 : decode prog_4_method_1_code 5 = .ok (.iconst 0, 1) := by decide +kernel
theorem d_N_init_6 : decode prog_4_method_1_code 6 = .ok (.putfield 9, 3) := by decide +kernel
theorem d_N_init_9 : decode prog_4_method_1_code 9 = .ok (.aload_n 0, 1) := by decide +kernel
theorem d_N_init_10 : decode prog_4_method_1_code 10 = .ok (.sipush 256, 3) := by decide +kernel
theorem d_N_init_13 : decode prog_4_method_1_code 13 = .ok (.newarray .long, 2) := by decide +kernel
theorem d_N_init_15 : decode prog_4_method_1_code 15 = .ok (.putfield 15, 3) := by decide +kernel
theorem d_N_init_18 : decode prog_4_method_1_code 18 = .ok (.return_, 1) := by decide +kernel
theorem d_X_clear_0 : decode prog_1_method_2_code 0 = .ok (.aload_n 0, 1) := by decide +kernel
theorem d_X_clear_1 : decode prog_1_method_2_code 1 = .ok (.getfield 12, 3) := by decide +kernel
theorem d_X_clear_4 : decode prog_1_method_2_code 4 = .ok (.getfield 60, 3) := by decide +kernel
theorem d_X_clear_7 : decode prog_1_method_2_code 7 = .ok (.istore_n 1, 1) := by decide +kernel
theorem d_X_clear_8 : decode prog_1_method_2_code 8 = .ok (.aload_n 0, 1) := by decide +kernel
theorem d_X_clear_9 : decode prog_1_method_2_code 9 = .ok (.getfield 12, 3) := by decide +kernel
theorem d_X_clear_12 : decode prog_1_method_2_code 12 = .ok (.invokevirtual 64, 3) := by decide +kernel
theorem d_X_clear_15 : decode prog_1_method_2_code 15 = .ok (.aload_n 0, 1) := by decide +kernel
theorem d_X_clear_16 : decode prog_1_method_2_code 16 = .ok (.getfield 26, 3) := by decide +kernel
theorem d_X_clear_19 : decode prog_1_method_2_code 19 = .ok (.invokevirtual 67, 3) := by decide +kernel
theorem d_X_clear_22 : decode prog_1_method_2_code 22 = .ok (.aload_n 0, 1) := by decide +kernel
theorem d_X_clear_23 : decode prog_1_method_2_code 23 = .ok (.iconst 0, 1) := by decide +kernel
theorem d_X_clear_24 : decode prog_1_method_2_code 24 = .ok (.putfield 19, 3) := by decide +kernel
theorem d_X_clear_27 : decode prog_1_method_2_code 27 = .ok (.iload_n 1, 1) := by decide +kernel
theorem d_X_clear_28 : decode prog_1_method_2_code 28 = .ok (.ireturn, 1) := by decide +kernel
theorem d_G_empty_0 : decode prog_2_method_2_code 0 = .ok (.aload_n 0, 1) := by decide +kernel
theorem d_G_empty_1 : decode prog_2_method_2_code 1 = .ok (.iconst 0, 1) := by decide +kernel
theorem d_G_empty_2 : decode prog_2_method_2_code 2 = .ok (.putfield 9, 3) := by decide +kernel
theorem d_G_empty_5 : decode prog_2_method_2_code 5 = .ok (.aload_n 0, 1) := by decide +kernel
theorem d_G_empty_6 : decode prog_2_method_2_code 6 = .ok (.iconst 0, 1) := by decide +kernel
theorem d_G_empty_7 : decode prog_2_method_2_code 7 = .ok (.putfield 15, 3) := by decide +kernel
theorem d_G_empty_10 : decode prog_2_method_2_code 10 = .ok (.aload_n 0, 1) := by decide +kernel
theorem d_G_empty_11 : decode prog_2_method_2_code 11 = .ok (.getfield 18, 3) := by decide +kernel
theorem d_G_empty_14 : decode prog_2_method_2_code 14 = .ok (.iconst 0, 1) := by decide +kernel
theorem d_G_empty_15 : decode prog_2_method_2_code 15 = .ok (.invokestatic 25, 3) := by decide +kernel
theorem d_G_empty_18 : decode prog_2_method_2_code 18 = .ok (.aload_n 0, 1) := by decide +kernel
theorem d_G_empty_19 : decode prog_2_method_2_code 19 = .ok (.getfield 22, 3) := by decide +kernel
theorem d_G_empty_22 : decode prog_2_method_2_code 22 = .ok (.iconst 0, 1) := by decide +kernel
theorem d_G_empty_23 : decode prog_2_method_2_code 23 = .ok (.invokestatic 25, 3) := by decide +kernel
theorem d_G_empty_26 : decode prog_2_method_2_code 26 = .ok (.return_, 1) := by decide +kernel
theorem d_A_fillI_0 : decode prog_11_method_103_code 0 = .ok (.iconst 0, 1) := by decide +kernel
theorem d_A_fillI_1 : decode prog_11_method_103_code 1 = .ok (.istore_n 2, 1) := by decide +kernel
theorem d_A_fillI_2 : decode prog_11_method_103_code 2 = .ok (.aload_n 0, 1) := by decide +kernel
theorem d_A_fillI_3 : decode prog_11_method_103_code 3 = .ok (.arraylength, 1) := by decide +kernel
theorem d_A_fillI_4 : decode prog_11_method_103_code 4 = .ok (.istore_n 3, 1) := by decide +kernel
theorem d_A_fillI_5 : decode prog_11_method_103_code 5 = .ok (.iload_n 2, 1) := by decide +kernel
theorem d_A_fillI_6 : decode prog_11_method_103_code 6 = .ok (.iload_n 3, 1) := by decide +kernel
theorem d_A_fillI_7 : decode prog_11_method_103_code 7 = .ok (.if_icmp .ge 13, 3) := by decide +kernel
theorem d_A_fillI_10 : decode prog_11_method_103_code 10 = .ok (.aload_n 0, 1) := by decide +kernel
theorem d_A_fillI_11 : decode prog_11_method_103_code 11 = .ok (.iload_n 2, 1) := by decide +kernel
theorem d_A_fillI_12 : decode prog_11_method_103_code 12 = .ok (.iload_n 1, 1) := by decide +kernel
theorem d_A_fillI_13 : decode prog_11_method_103_code 13 = .ok (.iastore, 1) := by decide +kernel
theorem d_A_fillI_14 : decode prog_11_method_103_code 14 = .ok (.iinc 2 1, 3) := by decide +kernel
theorem d_A_fillI_17 : decode prog_11_method_103_code 17 = .ok (.goto (-12), 3) := by decide +kernel
theorem d_A_fillI_20 : decode prog_11_method_103_code 20 = .ok (.return_, 1) := by decide +kernel
theorem d_T_releaseAll_0 : decode prog_5_method_3_code 0 = .ok (.aload_n 0, 1) := by decide +kernel
theorem d_T_releaseAll_1 : decode prog_5_method_3_code 1 = .ok (.iconst 0, 1) := by decide +kernel
theorem d_T_releaseAll_2 : decode prog_5_method_3_code 2 = .ok (.putfield 16, 3) := by decide +kernel
theorem d_T_releaseAll_5 : decode prog_5_method_3_code 5 = .ok (.aload_n 0, 1) := by decide +kernel
theorem d_T_releaseAll_6 : decode prog_5_method_3_code 6 = .ok (.iconst 0, 1) := by decide +kernel
theorem d_T_releaseAll_7 : decode prog_5_method_3_code 7 = .ok (.putfield 20, 3) := by decide +kernel
theorem d_T_releaseAll_10 : decode prog_5_method_3_code 10 = .ok (.return_, 1) := by decide +kernel
theorem d_X_place_0 : decode prog_1_method_3_code 0 = .ok (.aload_n 0, 1) := by decide +kernel
theorem d_X_place_1 : decode prog_1_method_3_code 1 = .ok (.getfield 12, 3) := by decide +kernel
theorem d_X_place_4 : decode prog_1_method_3_code 4 = .ok (.getfield 60, 3) := by decide +kernel
theorem d_X_place_7 : decode prog_1_method_3_code 7 = .ok (.bipush 8, 2) := by decide +kernel
theorem d_X_place_9 : decode prog_1_method_3_code 9 = .ok (.if_icmp .lt 6, 3) := by decide +kernel
theorem d_X_place_12 : decode prog_1_method_3_code 12 = .ok (.bipush (-3), 2) := by decide +kernel
theorem d_X_place_14 : decode prog_1_method_3_code 14 = .ok (.ireturn, 1) := by decide +kernel
theorem d_X_place_15 : decode prog_1_method_3_code 15 = .ok (.aload_n 0, 1) := by decide +kernel
theorem d_X_place_16 : decode prog_1_method_3_code 16 = .ok (.getfield 12, 3) := by decide +kernel
theorem d_X_place_19 : decode prog_1_method_3_code 19 = .ok (.getfield 60, 3) := by decide +kernel
theorem d_X_place_22 : decode prog_1_method_3_code 22 = .ok (.istore_n 1, 1) := by decide +kernel
theorem d_X_place_23 : decode prog_1_method_3_code 23 = .ok (.aload_n 0, 1) := by decide +kernel
theorem d_X_place_24 : decode prog_1_method_3_code 24 = .ok (.getfield 12, 3) := by decide +kernel
theorem d_X_place_27 : decode prog_1_method_3_code 27 = .ok (.iload_n 1, 1) := by decide +kernel
theorem d_X_place_28 : decode prog_1_method_3_code 28 = .ok (.iconst 1, 1) := by decide +kernel
theorem d_X_place_29 : decode prog_1_method_3_code 29 = .ok (.iadd, 1) := by decide +kernel
theorem d_X_place_30 : decode prog_1_method_3_code 30 = .ok (.putfield 60, 3) := by decide +kernel
theorem d_X_place_33 : decode prog_1_method_3_code 33 = .ok (.aload_n 0, 1) := by decide +kernel
theorem d_X_place_34 : decode prog_1_method_3_code 34 = .ok (.getfield 26, 3) := by decide +kernel
theorem d_X_place_37 : decode prog_1_method_3_code 37 = .ok (.iload_n 1, 1) := by decide +kernel
theorem d_X_place_38 : decode prog_1_method_3_code 38 = .ok (.invokevirtual 70, 3) := by decide +kernel
theorem d_X_place_41 : decode prog_1_method_3_code 41 = .ok (.iload_n 1, 1) := by decide +kernel
theorem d_X_place_42 : decode prog_1_method_3_code 42 = .ok (.ireturn, 1) := by decide +kernel
theorem d_T_startRows_0 : decode prog_5_method_2_code 0 = .ok (.aload_n 0, 1) := by decide +kernel
theorem d_T_startRows_1 : decode prog_5_method_2_code 1 = .ok (.getfield 11, 3) := by decide +kernel
theorem d_T_startRows_4 : decode prog_5_method_2_code 4 = .ok (.iload_n 1, 1) := by decide +kernel
theorem d_T_startRows_5 : decode prog_5_method_2_code 5 = .ok (.aaload, 1) := by decide +kernel
theorem d_T_startRows_6 : decode prog_5_method_2_code 6 = .ok (.iconst 4, 1) := by decide +kernel
theorem d_T_startRows_7 : decode prog_5_method_2_code 7 = .ok (.invokestatic 23, 3) := by decide +kernel
theorem d_T_startRows_10 : decode prog_5_method_2_code 10 = .ok (.return_, 1) := by decide +kernel
theorem d_X_arc_0 : decode prog_1_method_4_code 0 = .ok (.aload_n 0, 1) := by decide +kernel
theorem d_X_arc_1 : decode prog_1_method_4_code 1 = .ok (.iload_n 1, 1) := by decide +kernel
theorem d_X_arc_2 : decode prog_1_method_4_code 2 = .ok (.iload_n 2, 1) := by decide +kernel
theorem d_X_arc_3 : decode prog_1_method_4_code 3 = .ok (.invokevirtual 74, 3) := by decide +kernel
theorem d_X_arc_6 : decode prog_1_method_4_code 6 = .ok (.ifCond .ne 6, 3) := by decide +kernel
theorem d_X_arc_9 : decode prog_1_method_4_code 9 = .ok (.bipush (-2), 2) := by decide +kernel
theorem d_X_arc_11 : decode prog_1_method_4_code 11 = .ok (.ireturn, 1) := by decide +kernel
theorem d_X_arc_12 : decode prog_1_method_4_code 12 = .ok (.aload_n 0, 1) := by decide +kernel
theorem d_X_arc_13 : decode prog_1_method_4_code 13 = .ok (.getfield 12, 3) := by decide +kernel
theorem d_X_arc_16 : decode prog_1_method_4_code 16 = .ok (.iload_n 1, 1) := by decide +kernel
theorem d_X_arc_17 : decode prog_1_method_4_code 17 = .ok (.invokevirtual 78, 3) := by decide +kernel
theorem d_X_arc_20 : decode prog_1_method_4_code 20 = .ok (.iload_n 2, 1) := by decide +kernel
theorem d_X_arc_21 : decode prog_1_method_4_code 21 = .ok (.invokestatic 82, 3) := by decide +kernel
theorem d_X_arc_24 : decode prog_1_method_4_code 24 = .ok (.ifCond .eq 6, 3) := by decide +kernel
theorem d_X_arc_27 : decode prog_1_method_4_code 27 = .ok (.bipush (-4), 2) := by decide +kernel
theorem d_X_arc_29 : decode prog_1_method_4_code 29 = .ok (.ireturn, 1) := by decide +kernel
theorem d_X_arc_30 : decode prog_1_method_4_code 30 = .ok (.aload_n 0, 1) := by decide +kernel
theorem d_X_arc_31 : decode prog_1_method_4_code 31 = .ok (.getfield 12, 3) := by decide +kernel
theorem d_X_arc_34 : decode prog_1_method_4_code 34 = .ok (.getfield 85, 3) := by decide +kernel
theorem d_X_arc_37 : decode prog_1_method_4_code 37 = .ok (.iload_n 2, 1) := by decide +kernel
theorem d_X_arc_38 : decode prog_1_method_4_code 38 = .ok (.invokestatic 89, 3) := by decide +kernel
theorem d_X_arc_41 : decode prog_1_method_4_code 41 = .ok (.invokestatic 92, 3) := by decide +kernel
theorem d_X_arc_44 : decode prog_1_method_4_code 44 = .ok (.iload_n 1, 1) := by decide +kernel
theorem d_X_arc_45 : decode prog_1_method_4_code 45 = .ok (.invokestatic 82, 3) := by decide +kernel
theorem d_X_arc_48 : decode prog_1_method_4_code 48 = .ok (.ifCond .eq 6, 3) := by decide +kernel
theorem d_X_arc_51 : decode prog_1_method_4_code 51 = .ok (.bipush (-5), 2) := by decide +kernel
theorem d_X_arc_53 : decode prog_1_method_4_code 53 = .ok (.ireturn, 1) := by decide +kernel
theorem d_X_arc_54 : decode prog_1_method_4_code 54 = .ok (.aload_n 0, 1) := by decide +kernel
theorem d_X_arc_55 : decode prog_1_method_4_code 55 = .ok (.getfield 12, 3) := by decide +kernel
theorem d_X_arc_58 : decode prog_1_method_4_code 58 = .ok (.getfield 96, 3) := by decide +kernel
theorem d_X_arc_61 : decode prog_1_method_4_code 61 = .ok (.bipush 10, 2) := by decide +kernel
theorem d_X_arc_63 : decode prog_1_method_4_code 63 = .ok (.if_icmp .lt 6, 3) := by decide +kernel
theorem d_X_arc_66 : decode prog_1_method_4_code 66 = .ok (.bipush (-3), 2) := by decide +kernel
theorem d_X_arc_68 : decode prog_1_method_4_code 68 = .ok (.ireturn, 1) := by decide +kernel
theorem d_X_arc_69 : decode prog_1_method_4_code 69 = .ok (.aload_n 0, 1) := by decide +kernel
theorem d_X_arc_70 : decode prog_1_method_4_code 70 = .ok (.getfield 12, 3) := by decide +kernel
theorem d_X_arc_73 : decode prog_1_method_4_code 73 = .ok (.iload_n 1, 1) := by decide +kernel
theorem d_X_arc_74 : decode prog_1_method_4_code 74 = .ok (.iload_n 2, 1) := by decide +kernel
theorem d_X_arc_75 : decode prog_1_method_4_code 75 = .ok (.invokevirtual 99, 3) := by decide +kernel
theorem d_X_arc_78 : decode prog_1_method_4_code 78 = .ok (.aload_n 0, 1) := by decide +kernel
theorem d_X_arc_79 : decode prog_1_method_4_code 79 = .ok (.getfield 26, 3) := by decide +kernel
theorem d_X_arc_82 : decode prog_1_method_4_code 82 = .ok (.iload_n 2, 1) := by decide +kernel
theorem d_X_arc_83 : decode prog_1_method_4_code 83 = .ok (.invokevirtual 70, 3) := by decide +kernel
theorem d_X_arc_86 : decode prog_1_method_4_code 86 = .ok (.aload_n 0, 1) := by decide +kernel
theorem d_X_arc_87 : decode prog_1_method_4_code 87 = .ok (.getfield 12, 3) := by decide +kernel
theorem d_X_arc_90 : decode prog_1_method_4_code 90 = .ok (.getfield 96, 3) := by decide +kernel
theorem d_X_arc_93 : decode prog_1_method_4_code 93 = .ok (.ireturn, 1) := by decide +kernel
theorem d_X_isPair_0 : decode prog_1_method_24_code 0 = .ok (.aload_n 0, 1) := by decide +kernel
theorem d_X_isPair_1 : decode prog_1_method_24_code 1 = .ok (.iload_n 1, 1) := by decide +kernel
theorem d_X_isPair_2 : decode prog_1_method_24_code 2 = .ok (.invokevirtual 113, 3) := by decide +kernel
theorem d_X_isPair_5 : decode prog_1_method_24_code 5 = .ok (.ifCond .eq 20, 3) := by decide +kernel
theorem d_X_isPair_8 : decode prog_1_method_24_code 8 = .ok (.aload_n 0, 1) := by decide +kernel
theorem d_X_isPair_9 : decode prog_1_method_24_code 9 = .ok (.iload_n 2, 1) := by decide +kernel
theorem d_X_isPair_10 : decode prog_1_method_24_code 10 = .ok (.invokevirtual 113, 3) := by decide +kernel
theorem d_X_isPair_13 : decode prog_1_method_24_code 13 = .ok (.ifCond .eq 12, 3) := by decide +kernel
theorem d_X_isPair_16 : decode prog_1_method_24_code 16 = .ok (.iload_n 1, 1) := by decide +kernel
theorem d_X_isPair_17 : decode prog_1_method_24_code 17 = .ok (.iload_n 2, 1) := by decide +kernel
theorem d_X_isPair_18 : decode prog_1_method_24_code 18 = .ok (.if_icmp .eq 7, 3) := by decide +kernel
theorem d_X_isPair_21 : decode prog_1_method_24_code 21 = .ok (.iconst 1, 1) := by decide +kernel
theorem d_X_isPair_22 : decode prog_1_method_24_code 22 = .ok (.goto 4, 3) := by decide +kernel
theorem d_X_isPair_25 : decode prog_1_method_24_code 25 = .ok (.iconst 0, 1) := by decide +kernel
theorem d_X_isPair_26 : decode prog_1_method_24_code 26 = .ok (.ireturn, 1) := by decide +kernel
theorem d_X_isPlace_0 : decode prog_1_method_23_code 0 = .ok (.iload_n 1, 1) := by decide +kernel
theorem d_X_isPlace_1 : decode prog_1_method_23_code 1 = .ok (.ifCond .lt 18, 3) := by decide +kernel
theorem d_X_isPlace_4 : decode prog_1_method_23_code 4 = .ok (.iload_n 1, 1) := by decide +kernel
theorem d_X_isPlace_5 : decode prog_1_method_23_code 5 = .ok (.aload_n 0, 1) := by decide +kernel
theorem d_X_isPlace_6 : decode prog_1_method_23_code 6 = .ok (.getfield 12, 3) := by decide +kernel
theorem d_X_isPlace_9 : decode prog_1_method_23_code 9 = .ok (.getfield 60, 3) := by decide +kernel
theorem d_X_isPlace_12 : decode prog_1_method_23_code 12 = .ok (.if_icmp .ge 7, 3) := by decide +kernel
theorem d_X_isPlace_15 : decode prog_1_method_23_code 15 = .ok (.iconst 1, 1) := by decide +kernel
theorem d_X_isPlace_16 : decode prog_1_method_23_code 16 = .ok (.goto 4, 3) := by decide +kernel
theorem d_X_isPlace_19 : decode prog_1_method_23_code 19 = .ok (.iconst 0, 1) := by decide +kernel
theorem d_X_isPlace_20 : decode prog_1_method_23_code 20 = .ok (.ireturn, 1) := by decide +kernel
theorem d_G_neighbours_0 : decode prog_2_method_7_code 0 = .ok (.aload_n 0, 1) := by decide +kernel
theorem d_G_neighbours_1 : decode prog_2_method_7_code 1 = .ok (.getfield 18, 3) := by decide +kernel
theorem d_G_neighbours_4 : decode prog_2_method_7_code 4 = .ok (.iload_n 1, 1) := by decide +kernel
theorem d_G_neighbours_5 : decode prog_2_method_7_code 5 = .ok (.iaload, 1) := by decide +kernel
theorem d_G_neighbours_6 : decode prog_2_method_7_code 6 = .ok (.aload_n 0, 1) := by decide +kernel
theorem d_G_neighbours_7 : decode prog_2_method_7_code 7 = .ok (.getfield 22, 3) := by decide +kernel
theorem d_G_neighbours_10 : decode prog_2_method_7_code 10 = .ok (.iload_n 1, 1) := by decide +kernel
theorem d_G_neighbours_11 : decode prog_2_method_7_code 11 = .ok (.iaload, 1) := by decide +kernel
theorem d_G_neighbours_12 : decode prog_2_method_7_code 12 = .ok (.ior, 1) := by decide +kernel
theorem d_G_neighbours_13 : decode prog_2_method_7_code 13 = .ok (.ireturn, 1) := by decide +kernel
theorem d_X_has_0 : decode prog_1_method_32_code 0 = .ok (.iload_n 0, 1) := by decide +kernel
theorem d_X_has_1 : decode prog_1_method_32_code 1 = .ok (.iload_n 1, 1) := by decide +kernel
theorem d_X_has_2 : decode prog_1_method_32_code 2 = .ok (.ishr, 1) := by decide +kernel
theorem d_X_has_3 : decode prog_1_method_32_code 3 = .ok (.iconst 1, 1) := by decide +kernel
theorem d_X_has_4 : decode prog_1_method_32_code 4 = .ok (.iand, 1) := by decide +kernel
theorem d_X_has_5 : decode prog_1_method_32_code 5 = .ok (.ifCond .eq 7, 3) := by decide +kernel
theorem d_X_has_8 : decode prog_1_method_32_code 8 = .ok (.iconst 1, 1) := by decide +kernel
theorem d_X_has_9 : decode prog_1_method_32_code 9 = .ok (.goto 4, 3) := by decide +kernel
theorem d_X_has_12 : decode prog_1_method_32_code 12 = .ok (.iconst 0, 1) := by decide +kernel
theorem d_X_has_13 : decode prog_1_method_32_code 13 = .ok (.ireturn, 1) := by decide +kernel
theorem d_X_bit_0 : decode prog_1_method_31_code 0 = .ok (.iconst 1, 1) := by decide +kernel
theorem d_X_bit_1 : decode prog_1_method_31_code 1 = .ok (.iload_n 0, 1) := by decide +kernel
theorem d_X_bit_2 : decode prog_1_method_31_code 2 = .ok (.ishl, 1) := by decide +kernel
theorem d_X_bit_3 : decode prog_1_method_31_code 3 = .ok (.ireturn, 1) := by decide +kernel
theorem d_X_closure_0 : decode prog_1_method_34_code 0 = .ok (.iload_n 1, 1) := by decide +kernel
theorem d_X_closure_1 : decode prog_1_method_34_code 1 = .ok (.istore_n 2, 1) := by decide +kernel
theorem d_X_closure_2 : decode prog_1_method_34_code 2 = .ok (.iconst 0, 1) := by decide +kernel
theorem d_X_closure_3 : decode prog_1_method_34_code 3 = .ok (.istore_n 3, 1) := by decide +kernel
theorem d_X_closure_4 : decode prog_1_method_34_code 4 = .ok (.iload_n 3, 1) := by decide +kernel
theorem d_X_closure_5 : decode prog_1_method_34_code 5 = .ok (.aload_n 0, 1) := by decide +kernel
theorem d_X_closure_6 : decode prog_1_method_34_code 6 = .ok (.arraylength, 1) := by decide +kernel
theorem d_X_closure_7 : decode prog_1_method_34_code 7 = .ok (.if_icmp .ge 30, 3) := by decide +kernel
theorem d_X_closure_10 : decode prog_1_method_34_code 10 = .ok (.iload_n 2, 1) := by decide +kernel
theorem d_X_closure_11 : decode prog_1_method_34_code 11 = .ok (.aload_n 0, 1) := by decide +kernel
theorem d_X_closure_12 : decode prog_1_method_34_code 12 = .ok (.iload_n 2, 1) := by decide +kernel
theorem d_X_closure_13 : decode prog_1_method_34_code 13 = .ok (.invokestatic 210, 3) := by decide +kernel
theorem d_X_closure_16 : decode prog_1_method_34_code 16 = .ok (.ior, 1) := by decide +kernel
theorem d_X_closure_17 : decode prog_1_method_34_code 17 = .ok (.istore 4, 2) := by decide +kernel
theorem d_X_closure_19 : decode prog_1_method_34_code 19 = .ok (.iload 4, 2) := by decide +kernel
theorem d_X_closure_21 : decode prog_1_method_34_code 21 = .ok (.iload_n 2, 1) := by decide +kernel
theorem d_X_closure_22 : decode prog_1_method_34_code 22 = .ok (.if_icmp .ne 6, 3) := by decide +kernel
theorem d_X_closure_25 : decode prog_1_method_34_code 25 = .ok (.goto 12, 3) := by decide +kernel
theorem d_X_closure_28 : decode prog_1_method_34_code 28 = .ok (.iload 4, 2) := by decide +kernel
theorem d_X_closure_30 : decode prog_1_method_34_code 30 = .ok (.istore_n 2, 1) := by decide +kernel
theorem d_X_closure_31 : decode prog_1_method_34_code 31 = .ok (.iinc 3 1, 3) := by decide +kernel
theorem d_X_closure_34 : decode prog_1_method_34_code 34 = .ok (.goto (-30), 3) := by decide +kernel
theorem d_X_closure_37 : decode prog_1_method_34_code 37 = .ok (.iload_n 2, 1) := by decide +kernel
theorem d_X_closure_38 : decode prog_1_method_34_code 38 = .ok (.ireturn, 1) := by decide +kernel
theorem d_X_union_0 : decode prog_1_method_33_code 0 = .ok (.iconst 0, 1) := by decide +kernel
theorem d_X_union_1 : decode prog_1_method_33_code 1 = .ok (.istore_n 2, 1) := by decide +kernel
theorem d_X_union_2 : decode prog_1_method_33_code 2 = .ok (.iconst 0, 1) := by decide +kernel
theorem d_X_union_3 : decode prog_1_method_33_code 3 = .ok (.istore_n 3, 1) := by decide +kernel
theorem d_X_union_4 : decode prog_1_method_33_code 4 = .ok (.iload_n 3, 1) := by decide +kernel
theorem d_X_union_5 : decode prog_1_method_33_code 5 = .ok (.aload_n 0, 1) := by decide +kernel
theorem d_X_union_6 : decode prog_1_method_33_code 6 = .ok (.arraylength, 1) := by decide +kernel
theorem d_X_union_7 : decode prog_1_method_33_code 7 = .ok (.if_icmp .ge 23, 3) := by decide +kernel
theorem d_X_union_10 : decode prog_1_method_33_code 10 = .ok (.iload_n 1, 1) := by decide +kernel
theorem d_X_union_11 : decode prog_1_method_33_code 11 = .ok (.iload_n 3, 1) := by decide +kernel
theorem d_X_union_12 : decode prog_1_method_33_code 12 = .ok (.invokestatic 82, 3) := by decide +kernel
theorem d_X_union_15 : decode prog_1_method_33_code 15 = .ok (.ifCond .eq 9, 3) := by decide +kernel
theorem d_X_union_18 : decode prog_1_method_33_code 18 = .ok (.iload_n 2, 1) := by decide +kernel
theorem d_X_union_19 : decode prog_1_method_33_code 19 = .ok (.aload_n 0, 1) := by decide +kernel
theorem d_X_union_20 : decode prog_1_method_33_code 20 = .ok (.iload_n 3, 1) := by decide +kernel
theorem d_X_union_21 : decode prog_1_method_33_code 21 = .ok (.iaload, 1) := by decide +kernel
theorem d_X_union_22 : decode prog_1_method_33_code 22 = .ok (.ior, 1) := by decide +kernel
theorem d_X_union_23 : decode prog_1_method_33_code 23 = .ok (.istore_n 2, 1) := by decide +kernel
theorem d_X_union_24 : decode prog_1_method_33_code 24 = .ok (.iinc 3 1, 3) := by decide +kernel
theorem d_X_union_27 : decode prog_1_method_33_code 27 = .ok (.goto (-23), 3) := by decide +kernel
theorem d_X_union_30 : decode prog_1_method_33_code 30 = .ok (.iload_n 2, 1) := by decide +kernel
theorem d_X_union_31 : decode prog_1_method_33_code 31 = .ok (.ireturn, 1) := by decide +kernel
theorem d_G_join_0 : decode prog_2_method_4_code 0 = .ok (.aload_n 0, 1) := by decide +kernel
theorem d_G_join_1 : decode prog_2_method_4_code 1 = .ok (.getfield 22, 3) := by decide +kernel
theorem d_G_join_4 : decode prog_2_method_4_code 4 = .ok (.iload_n 1, 1) := by decide +kernel
theorem d_G_join_5 : decode prog_2_method_4_code 5 = .ok (.dup2, 1) := by decide +kernel
theorem d_G_join_6 : decode prog_2_method_4_code 6 = .ok (.iaload, 1) := by decide +kernel
theorem d_G_join_7 : decode prog_2_method_4_code 7 = .ok (.iload_n 2, 1) := by decide +kernel
theorem d_G_join_8 : decode prog_2_method_4_code 8 = .ok (.invokestatic 37, 3) := by decide +kernel
theorem d_G_join_11 : decode prog_2_method_4_code 11 = .ok (.ior, 1) := by decide +kernel
theorem d_G_join_12 : decode prog_2_method_4_code 12 = .ok (.iastore, 1) := by decide +kernel
theorem d_G_join_13 : decode prog_2_method_4_code 13 = .ok (.aload_n 0, 1) := by decide +kernel
theorem d_G_join_14 : decode prog_2_method_4_code 14 = .ok (.getfield 18, 3) := by decide +kernel
theorem d_G_join_17 : decode prog_2_method_4_code 17 = .ok (.iload_n 2, 1) := by decide +kernel
theorem d_G_join_18 : decode prog_2_method_4_code 18 = .ok (.dup2, 1) := by decide +kernel
theorem d_G_join_19 : decode prog_2_method_4_code 19 = .ok (.iaload, 1) := by decide +kernel
theorem d_G_join_20 : decode prog_2_method_4_code 20 = .ok (.iload_n 1, 1) := by decide +kernel
theorem d_G_join_21 : decode prog_2_method_4_code 21 = .ok (.invokestatic 37, 3) := by decide +kernel
theorem d_G_join_24 : decode prog_2_method_4_code 24 = .ok (.ior, 1) := by decide +kernel
theorem d_G_join_25 : decode prog_2_method_4_code 25 = .ok (.iastore, 1) := by decide +kernel
theorem d_G_join_26 : decode prog_2_method_4_code 26 = .ok (.aload_n 0, 1) := by decide +kernel
theorem d_G_join_27 : decode prog_2_method_4_code 27 = .ok (.dup, 1) := by decide +kernel
theorem d_G_join_28 : decode prog_2_method_4_code 28 = .ok (.getfield 15, 3) := by decide +kernel
theorem d_G_join_31 : decode prog_2_method_4_code 31 = .ok (.iconst 1, 1) := by decide +kernel
theorem d_G_join_32 : decode prog_2_method_4_code 32 = .ok (.iadd, 1) := by decide +kernel
theorem d_G_join_33 : decode prog_2_method_4_code 33 = .ok (.putfield 15, 3) := by decide +kernel
theorem d_G_join_36 : decode prog_2_method_4_code 36 = .ok (.return_, 1) := by decide +kernel
theorem d_X_cut_0 : decode prog_1_method_5_code 0 = .ok (.aload_n 0, 1) := by decide +kernel
theorem d_X_cut_1 : decode prog_1_method_5_code 1 = .ok (.iload_n 1, 1) := by decide +kernel
theorem d_X_cut_2 : decode prog_1_method_5_code 2 = .ok (.iload_n 2, 1) := by decide +kernel
theorem d_X_cut_3 : decode prog_1_method_5_code 3 = .ok (.invokevirtual 74, 3) := by decide +kernel
theorem d_X_cut_6 : decode prog_1_method_5_code 6 = .ok (.ifCond .ne 6, 3) := by decide +kernel
theorem d_X_cut_9 : decode prog_1_method_5_code 9 = .ok (.bipush (-2), 2) := by decide +kernel
theorem d_X_cut_11 : decode prog_1_method_5_code 11 = .ok (.ireturn, 1) := by decide +kernel
theorem d_X_cut_12 : decode prog_1_method_5_code 12 = .ok (.aload_n 0, 1) := by decide +kernel
theorem d_X_cut_13 : decode prog_1_method_5_code 13 = .ok (.getfield 12, 3) := by decide +kernel
theorem d_X_cut_16 : decode prog_1_method_5_code 16 = .ok (.getfield 85, 3) := by decide +kernel
theorem d_X_cut_19 : decode prog_1_method_5_code 19 = .ok (.iload_n 1, 1) := by decide +kernel
theorem d_X_cut_20 : decode prog_1_method_5_code 20 = .ok (.iaload, 1) := by decide +kernel
theorem d_X_cut_21 : decode prog_1_method_5_code 21 = .ok (.iload_n 2, 1) := by decide +kernel
theorem d_X_cut_22 : decode prog_1_method_5_code 22 = .ok (.invokestatic 82, 3) := by decide +kernel
theorem d_X_cut_25 : decode prog_1_method_5_code 25 = .ok (.ifCond .ne 5, 3) := by decide +kernel
theorem d_X_cut_28 : decode prog_1_method_5_code 28 = .ok (.iconst (-1), 1) := by decide +kernel
theorem d_X_cut_29 : decode prog_1_method_5_code 29 = .ok (.ireturn, 1) := by decide +kernel
theorem d_X_cut_30 : decode prog_1_method_5_code 30 = .ok (.aload_n 0, 1) := by decide +kernel
theorem d_X_cut_31 : decode prog_1_method_5_code 31 = .ok (.getfield 12, 3) := by decide +kernel
theorem d_X_cut_34 : decode prog_1_method_5_code 34 = .ok (.iload_n 1, 1) := by decide +kernel
theorem d_X_cut_35 : decode prog_1_method_5_code 35 = .ok (.iload_n 2, 1) := by decide +kernel
theorem d_X_cut_36 : decode prog_1_method_5_code 36 = .ok (.invokevirtual 103, 3) := by decide +kernel
theorem d_X_cut_39 : decode prog_1_method_5_code 39 = .ok (.aload_n 0, 1) := by decide +kernel
theorem d_X_cut_40 : decode prog_1_method_5_code 40 = .ok (.getfield 26, 3) := by decide +kernel
theorem d_X_cut_43 : decode prog_1_method_5_code 43 = .ok (.iload_n 2, 1) := by decide +kernel
theorem d_X_cut_44 : decode prog_1_method_5_code 44 = .ok (.invokevirtual 70, 3) := by decide +kernel
theorem d_X_cut_47 : decode prog_1_method_5_code 47 = .ok (.aload_n 0, 1) := by decide +kernel
theorem d_X_cut_48 : decode prog_1_method_5_code 48 = .ok (.getfield 12, 3) := by decide +kernel
theorem d_X_cut_51 : decode prog_1_method_5_code 51 = .ok (.getfield 96, 3) := by decide +kernel
theorem d_X_cut_54 : decode prog_1_method_5_code 54 = .ok (.ireturn, 1) := by decide +kernel
theorem d_G_part_0 : decode prog_2_method_5_code 0 = .ok (.aload_n 0, 1) := by decide +kernel
theorem d_G_part_1 : decode prog_2_method_5_code 1 = .ok (.getfield 22, 3) := by decide +kernel
theorem d_G_part_4 : decode prog_2_method_5_code 4 = .ok (.iload_n 1, 1) := by decide +kernel
theorem d_G_part_5 : decode prog_2_method_5_code 5 = .ok (.dup2, 1) := by decide +kernel
theorem d_G_part_6 : decode prog_2_method_5_code 6 = .ok (.iaload, 1) := by decide +kernel
theorem d_G_part_7 : decode prog_2_method_5_code 7 = .ok (.iload_n 2, 1) := by decide +kernel
theorem d_G_part_8 : decode prog_2_method_5_code 8 = .ok (.invokestatic 37, 3) := by decide +kernel
theorem d_G_part_11 : decode prog_2_method_5_code 11 = .ok (.iconst (-1), 1) := by decide +kernel
theorem d_G_part_12 : decode prog_2_method_5_code 12 = .ok (.ixor, 1) := by decide +kernel
theorem d_G_part_13 : decode prog_2_method_5_code 13 = .ok (.iand, 1) := by decide +kernel
theorem d_G_part_14 : decode prog_2_method_5_code 14 = .ok (.iastore, 1) := by decide +kernel
theorem d_G_part_15 : decode prog_2_method_5_code 15 = .ok (.aload_n 0, 1) := by decide +kernel
theorem d_G_part_16 : decode prog_2_method_5_code 16 = .ok (.getfield 18, 3) := by decide +kernel
theorem d_G_part_19 : decode prog_2_method_5_code 19 = .ok (.iload_n 2, 1) := by decide +kernel
theorem d_G_part_20 : decode prog_2_method_5_code 20 = .ok (.dup2, 1) := by decide +kernel
theorem d_G_part_21 : decode prog_2_method_5_code 21 = .ok (.iaload, 1) := by decide +kernel
theorem d_G_part_22 : decode prog_2_method_5_code 22 = .ok (.iload_n 1, 1) := by decide +kernel
theorem d_G_part_23 : decode prog_2_method_5_code 23 = .ok (.invokestatic 37, 3) := by decide +kernel
theorem d_G_part_26 : decode prog_2_method_5_code 26 = .ok (.iconst (-1), 1) := by decide +kernel
theorem d_G_part_27 : decode prog_2_method_5_code 27 = .ok (.ixor, 1) := by decide +kernel
theorem d_G_part_28 : decode prog_2_method_5_code 28 = .ok (.iand, 1) := by decide +kernel
theorem d_G_part_29 : decode prog_2_method_5_code 29 = .ok (.iastore, 1) := by decide +kernel
theorem d_G_part_30 : decode prog_2_method_5_code 30 = .ok (.aload_n 0, 1) := by decide +kernel
theorem d_G_part_31 : decode prog_2_method_5_code 31 = .ok (.dup, 1) := by decide +kernel
theorem d_G_part_32 : decode prog_2_method_5_code 32 = .ok (.getfield 15, 3) := by decide +kernel
theorem d_G_part_35 : decode prog_2_method_5_code 35 = .ok (.iconst 1, 1) := by decide +kernel
theorem d_G_part_36 : decode prog_2_method_5_code 36 = .ok (.isub, 1) := by decide +kernel
theorem d_G_part_37 : decode prog_2_method_5_code 37 = .ok (.putfield 15, 3) := by decide +kernel
theorem d_G_part_40 : decode prog_2_method_5_code 40 = .ok (.return_, 1) := by decide +kernel
theorem d_X_odds_0 : decode prog_1_method_6_code 0 = .ok (.aload_n 0, 1) := by decide +kernel
theorem d_X_odds_1 : decode prog_1_method_6_code 1 = .ok (.iload_n 1, 1) := by decide +kernel
theorem d_X_odds_2 : decode prog_1_method_6_code 2 = .ok (.iload_n 2, 1) := by decide +kernel
theorem d_X_odds_3 : decode prog_1_method_6_code 3 = .ok (.invokevirtual 106, 3) := by decide +kernel
theorem d_X_odds_6 : decode prog_1_method_6_code 6 = .ok (.ifCond .eq 13, 3) := by decide +kernel
theorem d_X_odds_9 : decode prog_1_method_6_code 9 = .ok (.iload_n 3, 1) := by decide +kernel
theorem d_X_odds_10 : decode prog_1_method_6_code 10 = .ok (.ifCond .lt 9, 3) := by decide +kernel
theorem d_X_odds_13 : decode prog_1_method_6_code 13 = .ok (.iload_n 3, 1) := by decide +kernel
theorem d_X_odds_14 : decode prog_1_method_6_code 14 = .ok (.bipush 8, 2) := by decide +kernel
theorem d_X_odds_16 : decode prog_1_method_6_code 16 = .ok (.if_icmp .le 6, 3) := by decide +kernel
theorem d_X_odds_19 : decode prog_1_method_6_code 19 = .ok (.bipush (-2), 2) := by decide +kernel
theorem d_X_odds_21 : decode prog_1_method_6_code 21 = .ok (.ireturn, 1) := by decide +kernel
theorem d_X_odds_22 : decode prog_1_method_6_code 22 = .ok (.aload_n 0, 1) := by decide +kernel
theorem d_X_odds_23 : decode prog_1_method_6_code 23 = .ok (.getfield 26, 3) := by decide +kernel
theorem d_X_odds_26 : decode prog_1_method_6_code 26 = .ok (.getfield 109, 3) := by decide +kernel
theorem d_X_odds_29 : decode prog_1_method_6_code 29 = .ok (.iload_n 1, 1) := by decide +kernel
theorem d_X_odds_30 : decode prog_1_method_6_code 30 = .ok (.aaload, 1) := by decide +kernel
theorem d_X_odds_31 : decode prog_1_method_6_code 31 = .ok (.iload_n 2, 1) := by decide +kernel
theorem d_X_odds_32 : decode prog_1_method_6_code 32 = .ok (.iaload, 1) := by decide +kernel
theorem d_X_odds_33 : decode prog_1_method_6_code 33 = .ok (.istore 4, 2) := by decide +kernel
theorem d_X_odds_35 : decode prog_1_method_6_code 35 = .ok (.aload_n 0, 1) := by decide +kernel
theorem d_X_odds_36 : decode prog_1_method_6_code 36 = .ok (.getfield 26, 3) := by decide +kernel
theorem d_X_odds_39 : decode prog_1_method_6_code 39 = .ok (.getfield 109, 3) := by decide +kernel
theorem d_X_odds_42 : decode prog_1_method_6_code 42 = .ok (.iload_n 1, 1) := by decide +kernel
theorem d_X_odds_43 : decode prog_1_method_6_code 43 = .ok (.aaload, 1) := by decide +kernel
theorem d_X_odds_44 : decode prog_1_method_6_code 44 = .ok (.iload_n 2, 1) := by decide +kernel
theorem d_X_odds_45 : decode prog_1_method_6_code 45 = .ok (.iload_n 3, 1) := by decide +kernel
theorem d_X_odds_46 : decode prog_1_method_6_code 46 = .ok (.iastore, 1) := by decide +kernel
theorem d_X_odds_47 : decode prog_1_method_6_code 47 = .ok (.iload 4, 2) := by decide +kernel
theorem d_X_odds_49 : decode prog_1_method_6_code 49 = .ok (.ireturn, 1) := by decide +kernel
theorem d_X_isRow_0 : decode prog_1_method_27_code 0 = .ok (.aload_n 0, 1) := by decide +kernel
theorem d_X_isRow_1 : decode prog_1_method_27_code 1 = .ok (.iload_n 1, 1) := by decide +kernel
theorem d_X_isRow_2 : decode prog_1_method_27_code 2 = .ok (.invokevirtual 113, 3) := by decide +kernel
theorem d_X_isRow_5 : decode prog_1_method_27_code 5 = .ok (.ifCond .eq 23, 3) := by decide +kernel
theorem d_X_isRow_8 : decode prog_1_method_27_code 8 = .ok (.iload_n 2, 1) := by decide +kernel
theorem d_X_isRow_9 : decode prog_1_method_27_code 9 = .ok (.ifCond .lt 19, 3) := by decide +kernel
theorem d_X_isRow_12 : decode prog_1_method_27_code 12 = .ok (.iload_n 2, 1) := by decide +kernel
theorem d_X_isRow_13 : decode prog_1_method_27_code 13 = .ok (.aload_n 0, 1) := by decide +kernel
theorem d_X_isRow_14 : decode prog_1_method_27_code 14 = .ok (.getfield 12, 3) := by decide +kernel
theorem d_X_isRow_17 : decode prog_1_method_27_code 17 = .ok (.iload_n 1, 1) := by decide +kernel
theorem d_X_isRow_18 : decode prog_1_method_27_code 18 = .ok (.invokevirtual 136, 3) := by decide +kernel
theorem d_X_isRow_21 : decode prog_1_method_27_code 21 = .ok (.if_icmp .ge 7, 3) := by decide +kernel
theorem d_X_isRow_24 : decode prog_1_method_27_code 24 = .ok (.iconst 1, 1) := by decide +kernel
theorem d_X_isRow_25 : decode prog_1_method_27_code 25 = .ok (.goto 4, 3) := by decide +kernel
theorem d_X_isRow_28 : decode prog_1_method_27_code 28 = .ok (.iconst 0, 1) := by decide +kernel
theorem d_X_isRow_29 : decode prog_1_method_27_code 29 = .ok (.ireturn, 1) := by decide +kernel
theorem d_G_rows_0 : decode prog_2_method_8_code 0 = .ok (.iconst 1, 1) := by decide +kernel
theorem d_G_rows_1 : decode prog_2_method_8_code 1 = .ok (.aload_n 0, 1) := by decide +kernel
theorem d_G_rows_2 : decode prog_2_method_8_code 2 = .ok (.getfield 18, 3) := by decide +kernel
theorem d_G_rows_5 : decode prog_2_method_8_code 5 = .ok (.iload_n 1, 1) := by decide +kernel
theorem d_G_rows_6 : decode prog_2_method_8_code 6 = .ok (.iaload, 1) := by decide +kernel
theorem d_G_rows_7 : decode prog_2_method_8_code 7 = .ok (.invokestatic 41, 3) := by decide +kernel
theorem d_G_rows_10 : decode prog_2_method_8_code 10 = .ok (.ishl, 1) := by decide +kernel
theorem d_G_rows_11 : decode prog_2_method_8_code 11 = .ok (.ireturn, 1) := by decide +kernel
theorem d_I_bitCount_0 : decode prog_9_method_49_code 0 = .ok (.iload_n 0, 1) := by decide +kernel
theorem d_I_bitCount_1 : decode prog_9_method_49_code 1 = .ok (.iload_n 0, 1) := by decide +kernel
theorem d_I_bitCount_2 : decode prog_9_method_49_code 2 = .ok (.iconst 1, 1) := by decide +kernel
theorem d_I_bitCount_3 : decode prog_9_method_49_code 3 = .ok (.iushr, 1) := by decide +kernel
theorem d_I_bitCount_4 : decode prog_9_method_49_code 4 = .ok (.ldc_w 265, 3) := by decide +kernel
theorem d_I_bitCount_7 : decode prog_9_method_49_code 7 = .ok (.iand, 1) := by decide +kernel
theorem d_I_bitCount_8 : decode prog_9_method_49_code 8 = .ok (.isub, 1) := by decide +kernel
theorem d_I_bitCount_9 : decode prog_9_method_49_code 9 = .ok (.istore_n 0, 1) := by decide +kernel
theorem d_I_bitCount_10 : decode prog_9_method_49_code 10 = .ok (.iload_n 0, 1) := by decide +kernel
theorem d_I_bitCount_11 : decode prog_9_method_49_code 11 = .ok (.ldc_w 266, 3) := by decide +kernel
theorem d_I_bitCount_14 : decode prog_9_method_49_code 14 = .ok (.iand, 1) := by decide +kernel
theorem d_I_bitCount_15 : decode prog_9_method_49_code 15 = .ok (.iload_n 0, 1) := by decide +kernel
theorem d_I_bitCount_16 : decode prog_9_method_49_code 16 = .ok (.iconst 2, 1) := by decide +kernel
theorem d_I_bitCount_17 : decode prog_9_method_49_code 17 = .ok (.iushr, 1) := by decide +kernel
theorem d_I_bitCount_18 : decode prog_9_method_49_code 18 = .ok (.ldc_w 266, 3) := by decide +kernel
theorem d_I_bitCount_21 : decode prog_9_method_49_code 21 = .ok (.iand, 1) := by decide +kernel
theorem d_I_bitCount_22 : decode prog_9_method_49_code 22 = .ok (.iadd, 1) := by decide +kernel
theorem d_I_bitCount_23 : decode prog_9_method_49_code 23 = .ok (.istore_n 0, 1) := by decide +kernel
theorem d_I_bitCount_24 : decode prog_9_method_49_code 24 = .ok (.iload_n 0, 1) := by decide +kernel
theorem d_I_bitCount_25 : decode prog_9_method_49_code 25 = .ok (.iload_n 0, 1) := by decide +kernel
theorem d_I_bitCount_26 : decode prog_9_method_49_code 26 = .ok (.iconst 4, 1) := by decide +kernel
theorem d_I_bitCount_27 : decode prog_9_method_49_code 27 = .ok (.iushr, 1) := by decide +kernel
theorem d_I_bitCount_28 : decode prog_9_method_49_code 28 = .ok (.iadd, 1) := by decide +kernel
theorem d_I_bitCount_29 : decode prog_9_method_49_code 29 = .ok (.ldc_w 267, 3) := by decide +kernel
theorem d_I_bitCount_32 : decode prog_9_method_49_code 32 = .ok (.iand, 1) := by decide +kernel
theorem d_I_bitCount_33 : decode prog_9_method_49_code 33 = .ok (.istore_n 0, 1) := by decide +kernel
theorem d_I_bitCount_34 : decode prog_9_method_49_code 34 = .ok (.iload_n 0, 1) := by decide +kernel
theorem d_I_bitCount_35 : decode prog_9_method_49_code 35 = .ok (.iload_n 0, 1) := by decide +kernel
theorem d_I_bitCount_36 : decode prog_9_method_49_code 36 = .ok (.bipush 8, 2) := by decide +kernel
theorem d_I_bitCount_38 : decode prog_9_method_49_code 38 = .ok (.iushr, 1) := by decide +kernel
theorem d_I_bitCount_39 : decode prog_9_method_49_code 39 = .ok (.iadd, 1) := by decide +kernel
theorem d_I_bitCount_40 : decode prog_9_method_49_code 40 = .ok (.istore_n 0, 1) := by decide +kernel
theorem d_I_bitCount_41 : decode prog_9_method_49_code 41 = .ok (.iload_n 0, 1) := by decide +kernel
theorem d_I_bitCount_42 : decode prog_9_method_49_code 42 = .ok (.iload_n 0, 1) := by decide +kernel
theorem d_I_bitCount_43 : decode prog_9_method_49_code 43 = .ok (.bipush 16, 2) := by decide +kernel
theorem d_I_bitCount_45 : decode prog_9_method_49_code 45 = .ok (.iushr, 1) := by decide +kernel
theorem d_I_bitCount_46 : decode prog_9_method_49_code 46 = .ok (.iadd, 1) := by decide +kernel
theorem d_I_bitCount_47 : decode prog_9_method_49_code 47 = .ok (.istore_n 0, 1) := by decide +kernel
theorem d_I_bitCount_48 : decode prog_9_method_49_code 48 = .ok (.iload_n 0, 1) := by decide +kernel
theorem d_I_bitCount_49 : decode prog_9_method_49_code 49 = .ok (.bipush 63, 2) := by decide +kernel
theorem d_I_bitCount_51 : decode prog_9_method_49_code 51 = .ok (.iand, 1) := by decide +kernel
theorem d_I_bitCount_52 : decode prog_9_method_49_code 52 = .ok (.ireturn, 1) := by decide +kernel
theorem d_X_hold_0 : decode prog_1_method_7_code 0 = .ok (.aload_n 0, 1) := by decide +kernel
theorem d_X_hold_1 : decode prog_1_method_7_code 1 = .ok (.iload_n 1, 1) := by decide +kernel
theorem d_X_hold_2 : decode prog_1_method_7_code 2 = .ok (.invokevirtual 113, 3) := by decide +kernel
theorem d_X_hold_5 : decode prog_1_method_7_code 5 = .ok (.ifCond .eq 13, 3) := by decide +kernel
theorem d_X_hold_8 : decode prog_1_method_7_code 8 = .ok (.iload_n 2, 1) := by decide +kernel
theorem d_X_hold_9 : decode prog_1_method_7_code 9 = .ok (.iconst (-1), 1) := by decide +kernel
theorem d_X_hold_10 : decode prog_1_method_7_code 10 = .ok (.if_icmp .lt 8, 3) := by decide +kernel
theorem d_X_hold_13 : decode prog_1_method_7_code 13 = .ok (.iload_n 2, 1) := by decide +kernel
theorem d_X_hold_14 : decode prog_1_method_7_code 14 = .ok (.iconst 1, 1) := by decide +kernel
theorem d_X_hold_15 : decode prog_1_method_7_code 15 = .ok (.if_icmp .le 6, 3) := by decide +kernel
theorem d_X_hold_18 : decode prog_1_method_7_code 18 = .ok (.bipush (-2), 2) := by decide +kernel
theorem d_X_hold_20 : decode prog_1_method_7_code 20 = .ok (.ireturn, 1) := by decide +kernel
theorem d_X_hold_21 : decode prog_1_method_7_code 21 = .ok (.aload_n 0, 1) := by decide +kernel
theorem d_X_hold_22 : decode prog_1_method_7_code 22 = .ok (.getfield 26, 3) := by decide +kernel
theorem d_X_hold_25 : decode prog_1_method_7_code 25 = .ok (.iload_n 1, 1) := by decide +kernel
theorem d_X_hold_26 : decode prog_1_method_7_code 26 = .ok (.invokevirtual 117, 3) := by decide +kernel
theorem d_X_hold_29 : decode prog_1_method_7_code 29 = .ok (.istore_n 3, 1) := by decide +kernel
theorem d_X_hold_30 : decode prog_1_method_7_code 30 = .ok (.aload_n 0, 1) := by decide +kernel
theorem d_X_hold_31 : decode prog_1_method_7_code 31 = .ok (.getfield 26, 3) := by decide +kernel
theorem d_X_hold_34 : decode prog_1_method_7_code 34 = .ok (.iload_n 1, 1) := by decide +kernel
theorem d_X_hold_35 : decode prog_1_method_7_code 35 = .ok (.iload_n 2, 1) := by decide +kernel
theorem d_X_hold_36 : decode prog_1_method_7_code 36 = .ok (.invokevirtual 120, 3) := by decide +kernel
theorem d_X_hold_39 : decode prog_1_method_7_code 39 = .ok (.iload_n 3, 1) := by decide +kernel
theorem d_X_hold_40 : decode prog_1_method_7_code 40 = .ok (.ireturn, 1) := by decide +kernel
theorem d_T_heldAt_0 : decode prog_5_method_5_code 0 = .ok (.aload_n 0, 1) := by decide +kernel
theorem d_T_heldAt_1 : decode prog_5_method_5_code 1 = .ok (.getfield 16, 3) := by decide +kernel
theorem d_T_heldAt_4 : decode prog_5_method_5_code 4 = .ok (.iload_n 1, 1) := by decide +kernel
theorem d_T_heldAt_5 : decode prog_5_method_5_code 5 = .ok (.invokestatic 33, 3) := by decide +kernel
theorem d_T_heldAt_8 : decode prog_5_method_5_code 8 = .ok (.ifCond .ne 5, 3) := by decide +kernel
theorem d_T_heldAt_11 : decode prog_5_method_5_code 11 = .ok (.iconst (-1), 1) := by decide +kernel
theorem d_T_heldAt_12 : decode prog_5_method_5_code 12 = .ok (.ireturn, 1) := by decide +kernel
theorem d_T_heldAt_13 : decode prog_5_method_5_code 13 = .ok (.aload_n 0, 1) := by decide +kernel
theorem d_T_heldAt_14 : decode prog_5_method_5_code 14 = .ok (.getfield 20, 3) := by decide +kernel
theorem d_T_heldAt_17 : decode prog_5_method_5_code 17 = .ok (.iload_n 1, 1) := by decide +kernel
theorem d_T_heldAt_18 : decode prog_5_method_5_code 18 = .ok (.ishr, 1) := by decide +kernel
theorem d_T_heldAt_19 : decode prog_5_method_5_code 19 = .ok (.iconst 1, 1) := by decide +kernel
theorem d_T_heldAt_20 : decode prog_5_method_5_code 20 = .ok (.iand, 1) := by decide +kernel
theorem d_T_heldAt_21 : decode prog_5_method_5_code 21 = .ok (.ireturn, 1) := by decide +kernel
theorem d_T_setHeld_0 : decode prog_5_method_4_code 0 = .ok (.aload_n 0, 1) := by decide +kernel
theorem d_T_setHeld_1 : decode prog_5_method_4_code 1 = .ok (.dup, 1) := by decide +kernel
theorem d_T_setHeld_2 : decode prog_5_method_4_code 2 = .ok (.getfield 16, 3) := by decide +kernel
theorem d_T_setHeld_5 : decode prog_5_method_4_code 5 = .ok (.iload_n 1, 1) := by decide +kernel
theorem d_T_setHeld_6 : decode prog_5_method_4_code 6 = .ok (.invokestatic 29, 3) := by decide +kernel
theorem d_T_setHeld_9 : decode prog_5_method_4_code 9 = .ok (.iconst (-1), 1) := by decide +kernel
theorem d_T_setHeld_10 : decode prog_5_method_4_code 10 = .ok (.ixor, 1) := by decide +kernel
theorem d_T_setHeld_11 : decode prog_5_method_4_code 11 = .ok (.iand, 1) := by decide +kernel
theorem d_T_setHeld_12 : decode prog_5_method_4_code 12 = .ok (.putfield 16, 3) := by decide +kernel
theorem d_T_setHeld_15 : decode prog_5_method_4_code 15 = .ok (.aload_n 0, 1) := by decide +kernel
theorem d_T_setHeld_16 : decode prog_5_method_4_code 16 = .ok (.dup, 1) := by decide +kernel
theorem d_T_setHeld_17 : decode prog_5_method_4_code 17 = .ok (.getfield 20, 3) := by decide +kernel
theorem d_T_setHeld_20 : decode prog_5_method_4_code 20 = .ok (.iload_n 1, 1) := by decide +kernel
theorem d_T_setHeld_21 : decode prog_5_method_4_code 21 = .ok (.invokestatic 29, 3) := by decide +kernel
theorem d_T_setHeld_24 : decode prog_5_method_4_code 24 = .ok (.iconst (-1), 1) := by decide +kernel
theorem d_T_setHeld_25 : decode prog_5_method_4_code 25 = .ok (.ixor, 1) := by decide +kernel
theorem d_T_setHeld_26 : decode prog_5_method_4_code 26 = .ok (.iand, 1) := by decide +kernel
theorem d_T_setHeld_27 : decode prog_5_method_4_code 27 = .ok (.putfield 20, 3) := by decide +kernel
theorem d_T_setHeld_30 : decode prog_5_method_4_code 30 = .ok (.iload_n 2, 1) := by decide +kernel
theorem d_T_setHeld_31 : decode prog_5_method_4_code 31 = .ok (.iconst (-1), 1) := by decide +kernel
theorem d_T_setHeld_32 : decode prog_5_method_4_code 32 = .ok (.if_icmp .eq 28, 3) := by decide +kernel
theorem d_T_setHeld_35 : decode prog_5_method_4_code 35 = .ok (.aload_n 0, 1) := by decide +kernel
theorem d_T_setHeld_36 : decode prog_5_method_4_code 36 = .ok (.dup, 1) := by decide +kernel
theorem d_T_setHeld_37 : decode prog_5_method_4_code 37 = .ok (.getfield 16, 3) := by decide +kernel
theorem d_T_setHeld_40 : decode prog_5_method_4_code 40 = .ok (.iload_n 1, 1) := by decide +kernel
theorem d_T_setHeld_41 : decode prog_5_method_4_code 41 = .ok (.invokestatic 29, 3) := by decide +kernel
theorem d_T_setHeld_44 : decode prog_5_method_4_code 44 = .ok (.ior, 1) := by decide +kernel
theorem d_T_setHeld_45 : decode prog_5_method_4_code 45 = .ok (.putfield 16, 3) := by decide +kernel
theorem d_T_setHeld_48 : decode prog_5_method_4_code 48 = .ok (.aload_n 0, 1) := by decide +kernel
theorem d_T_setHeld_49 : decode prog_5_method_4_code 49 = .ok (.dup, 1) := by decide +kernel
theorem d_T_setHeld_50 : decode prog_5_method_4_code 50 = .ok (.getfield 20, 3) := by decide +kernel
theorem d_T_setHeld_53 : decode prog_5_method_4_code 53 = .ok (.iload_n 2, 1) := by decide +kernel
theorem d_T_setHeld_54 : decode prog_5_method_4_code 54 = .ok (.iload_n 1, 1) := by decide +kernel
theorem d_T_setHeld_55 : decode prog_5_method_4_code 55 = .ok (.ishl, 1) := by decide +kernel
theorem d_T_setHeld_56 : decode prog_5_method_4_code 56 = .ok (.ior, 1) := by decide +kernel
theorem d_T_setHeld_57 : decode prog_5_method_4_code 57 = .ok (.putfield 20, 3) := by decide +kernel
theorem d_T_setHeld_60 : decode prog_5_method_4_code 60 = .ok (.return_, 1) := by decide +kernel
theorem d_X_told_0 : decode prog_1_method_8_code 0 = .ok (.aload_n 0, 1) := by decide +kernel
theorem d_X_told_1 : decode prog_1_method_8_code 1 = .ok (.iload_n 1, 1) := by decide +kernel
theorem d_X_told_2 : decode prog_1_method_8_code 2 = .ok (.iload_n 2, 1) := by decide +kernel
theorem d_X_told_3 : decode prog_1_method_8_code 3 = .ok (.invokevirtual 106, 3) := by decide +kernel
theorem d_X_told_6 : decode prog_1_method_8_code 6 = .ok (.ifCond .eq 17, 3) := by decide +kernel
theorem d_X_told_9 : decode prog_1_method_8_code 9 = .ok (.aload_n 0, 1) := by decide +kernel
theorem d_X_told_10 : decode prog_1_method_8_code 10 = .ok (.getfield 26, 3) := by decide +kernel
theorem d_X_told_13 : decode prog_1_method_8_code 13 = .ok (.getfield 109, 3) := by decide +kernel
theorem d_X_told_16 : decode prog_1_method_8_code 16 = .ok (.iload_n 1, 1) := by decide +kernel
theorem d_X_told_17 : decode prog_1_method_8_code 17 = .ok (.aaload, 1) := by decide +kernel
theorem d_X_told_18 : decode prog_1_method_8_code 18 = .ok (.iload_n 2, 1) := by decide +kernel
theorem d_X_told_19 : decode prog_1_method_8_code 19 = .ok (.iaload, 1) := by decide +kernel
theorem d_X_told_20 : decode prog_1_method_8_code 20 = .ok (.goto 5, 3) := by decide +kernel
theorem d_X_told_23 : decode prog_1_method_8_code 23 = .ok (.bipush (-2), 2) := by decide +kernel
theorem d_X_told_25 : decode prog_1_method_8_code 25 = .ok (.ireturn, 1) := by decide +kernel
theorem d_X_of_0 : decode prog_1_method_9_code 0 = .ok (.aload_n 0, 1) := by decide +kernel
theorem d_X_of_1 : decode prog_1_method_9_code 1 = .ok (.iload_n 1, 1) := by decide +kernel
theorem d_X_of_2 : decode prog_1_method_9_code 2 = .ok (.invokevirtual 113, 3) := by decide +kernel
theorem d_X_of_5 : decode prog_1_method_9_code 5 = .ok (.ifCond .ne 6, 3) := by decide +kernel
theorem d_X_of_8 : decode prog_1_method_9_code 8 = .ok (.bipush (-2), 2) := by decide +kernel
theorem d_X_of_10 : decode prog_1_method_9_code 10 = .ok (.ireturn, 1) := by decide +kernel
theorem d_X_of_11 : decode prog_1_method_9_code 11 = .ok (.iload_n 2, 1) := by decide +kernel
theorem d_X_of_12 : decode prog_1_method_9_code 12 = .ok (.tableswitch 102 0 4 #[36, 46, 56, 84, 93], 36) := by decide +kernel
theorem d_X_of_48 : decode prog_1_method_9_code 48 = .ok (.aload_n 0, 1) := by decide +kernel
theorem d_X_of_49 : decode prog_1_method_9_code 49 = .ok (.getfield 12, 3) := by decide +kernel
theorem d_X_of_52 : decode prog_1_method_9_code 52 = .ok (.getfield 123, 3) := by decide +kernel
theorem d_X_of_55 : decode prog_1_method_9_code 55 = .ok (.iload_n 1, 1) := by decide +kernel
theorem d_X_of_56 : decode prog_1_method_9_code 56 = .ok (.iaload, 1) := by decide +kernel
theorem d_X_of_57 : decode prog_1_method_9_code 57 = .ok (.ireturn, 1) := by decide +kernel
theorem d_X_of_58 : decode prog_1_method_9_code 58 = .ok (.aload_n 0, 1) := by decide +kernel
theorem d_X_of_59 : decode prog_1_method_9_code 59 = .ok (.getfield 12, 3) := by decide +kernel
theorem d_X_of_62 : decode prog_1_method_9_code 62 = .ok (.getfield 85, 3) := by decide +kernel
theorem d_X_of_65 : decode prog_1_method_9_code 65 = .ok (.iload_n 1, 1) := by decide +kernel
theorem d_X_of_66 : decode prog_1_method_9_code 66 = .ok (.iaload, 1) := by decide +kernel
theorem d_X_of_67 : decode prog_1_method_9_code 67 = .ok (.ireturn, 1) := by decide +kernel
theorem d_X_of_68 : decode prog_1_method_9_code 68 = .ok (.aload_n 0, 1) := by decide +kernel
theorem d_X_of_69 : decode prog_1_method_9_code 69 = .ok (.getfield 33, 3) := by decide +kernel
theorem d_X_of_72 : decode prog_1_method_9_code 72 = .ok (.aload_n 0, 1) := by decide +kernel
theorem d_X_of_73 : decode prog_1_method_9_code 73 = .ok (.getfield 12, 3) := by decide +kernel
theorem d_X_of_76 : decode prog_1_method_9_code 76 = .ok (.aload_n 0, 1) := by decide +kernel
theorem d_X_of_77 : decode prog_1_method_9_code 77 = .ok (.getfield 26, 3) := by decide +kernel
theorem d_X_of_80 : decode prog_1_method_9_code 80 = .ok (.getfield 126, 3) := by decide +kernel
theorem d_X_of_83 : decode prog_1_method_9_code 83 = .ok (.iconst 0, 1) := by decide +kernel
theorem d_X_of_84 : decode prog_1_method_9_code 84 = .ok (.invokevirtual 129, 3) := by decide +kernel
theorem d_X_of_87 : decode prog_1_method_9_code 87 = .ok (.aload_n 0, 1) := by decide +kernel
theorem d_X_of_88 : decode prog_1_method_9_code 88 = .ok (.getfield 33, 3) := by decide +kernel
theorem d_X_of_91 : decode prog_1_method_9_code 91 = .ok (.iload_n 1, 1) := by decide +kernel
theorem d_X_of_92 : decode prog_1_method_9_code 92 = .ok (.invokevirtual 133, 3) := by decide +kernel
theorem d_X_of_95 : decode prog_1_method_9_code 95 = .ok (.ireturn, 1) := by decide +kernel
theorem d_X_of_96 : decode prog_1_method_9_code 96 = .ok (.aload_n 0, 1) := by decide +kernel
theorem d_X_of_97 : decode prog_1_method_9_code 97 = .ok (.getfield 26, 3) := by decide +kernel
theorem d_X_of_100 : decode prog_1_method_9_code 100 = .ok (.iload_n 1, 1) := by decide +kernel
theorem d_X_of_101 : decode prog_1_method_9_code 101 = .ok (.invokevirtual 117, 3) := by decide +kernel
theorem d_X_of_104 : decode prog_1_method_9_code 104 = .ok (.ireturn, 1) := by decide +kernel
theorem d_X_of_105 : decode prog_1_method_9_code 105 = .ok (.aload_n 0, 1) := by decide +kernel
theorem d_X_of_106 : decode prog_1_method_9_code 106 = .ok (.getfield 12, 3) := by decide +kernel
theorem d_X_of_109 : decode prog_1_method_9_code 109 = .ok (.iload_n 1, 1) := by decide +kernel
theorem d_X_of_110 : decode prog_1_method_9_code 110 = .ok (.invokevirtual 136, 3) := by decide +kernel
theorem d_X_of_113 : decode prog_1_method_9_code 113 = .ok (.ireturn, 1) := by decide +kernel
theorem d_X_of_114 : decode prog_1_method_9_code 114 = .ok (.bipush (-2), 2) := by decide +kernel
theorem d_X_of_116 : decode prog_1_method_9_code 116 = .ok (.ireturn, 1) := by decide +kernel
theorem d_V_lookAt_0 : decode prog_6_method_2_code 0 = .ok (.iconst 0, 1) := by decide +kernel
theorem d_V_lookAt_1 : decode prog_6_method_2_code 1 = .ok (.istore 4, 2) := by decide +kernel
theorem d_V_lookAt_3 : decode prog_6_method_2_code 3 = .ok (.iload 4, 2) := by decide +kernel
theorem d_V_lookAt_5 : decode prog_6_method_2_code 5 = .ok (.bipush 8, 2) := by decide +kernel
theorem d_V_lookAt_7 : decode prog_6_method_2_code 7 = .ok (.if_icmp .ge 71, 3) := by decide +kernel
theorem d_V_lookAt_10 : decode prog_6_method_2_code 10 = .ok (.aload_n 0, 1) := by decide +kernel
theorem d_V_lookAt_11 : decode prog_6_method_2_code 11 = .ok (.getfield 9, 3) := by decide +kernel
theorem d_V_lookAt_14 : decode prog_6_method_2_code 14 = .ok (.iload 4, 2) := by decide +kernel
theorem d_V_lookAt_16 : decode prog_6_method_2_code 16 = .ok (.iload_n 2, 1) := by decide +kernel
theorem d_V_lookAt_17 : decode prog_6_method_2_code 17 = .ok (.iload 4, 2) := by decide +kernel
theorem d_V_lookAt_19 : decode prog_6_method_2_code 19 = .ok (.invokestatic 37, 3) := by decide +kernel
theorem d_V_lookAt_22 : decode prog_6_method_2_code 22 = .ok (.ifCond .eq 7, 3) := by decide +kernel
theorem d_V_lookAt_25 : decode prog_6_method_2_code 25 = .ok (.iconst 0, 1) := by decide +kernel
theorem d_V_lookAt_26 : decode prog_6_method_2_code 26 = .ok (.goto 14, 3) := by decide +kernel
theorem d_V_lookAt_29 : decode prog_6_method_2_code 29 = .ok (.aload_n 1, 1) := by decide +kernel
theorem d_V_lookAt_30 : decode prog_6_method_2_code 30 = .ok (.getfield 41, 3) := by decide +kernel
theorem d_V_lookAt_33 : decode prog_6_method_2_code 33 = .ok (.iload 4, 2) := by decide +kernel
theorem d_V_lookAt_35 : decode prog_6_method_2_code 35 = .ok (.iaload, 1) := by decide +kernel
theorem d_V_lookAt_36 : decode prog_6_method_2_code 36 = .ok (.iload_n 3, 1) := by decide +kernel
theorem d_V_lookAt_37 : decode prog_6_method_2_code 37 = .ok (.iconst (-1), 1) := by decide +kernel
theorem d_V_lookAt_38 : decode prog_6_method_2_code 38 = .ok (.ixor, 1) := by decide +kernel
theorem d_V_lookAt_39 : decode prog_6_method_2_code 39 = .ok (.iand, 1) := by decide +kernel
theorem d_V_lookAt_40 : decode prog_6_method_2_code 40 = .ok (.iastore, 1) := by decide +kernel
theorem d_V_lookAt_41 : decode prog_6_method_2_code 41 = .ok (.aload_n 0, 1) := by decide +kernel
theorem d_V_lookAt_42 : decode prog_6_method_2_code 42 = .ok (.getfield 15, 3) := by decide +kernel
theorem d_V_lookAt_45 : decode prog_6_method_2_code 45 = .ok (.iload 4, 2) := by decide +kernel
theorem d_V_lookAt_47 : decode prog_6_method_2_code 47 = .ok (.iload_n 3, 1) := by decide +kernel
theorem d_V_lookAt_48 : decode prog_6_method_2_code 48 = .ok (.iload 4, 2) := by decide +kernel
theorem d_V_lookAt_50 : decode prog_6_method_2_code 50 = .ok (.invokestatic 37, 3) := by decide +kernel
theorem d_V_lookAt_53 : decode prog_6_method_2_code 53 = .ok (.ifCond .eq 7, 3) := by decide +kernel
theorem d_V_lookAt_56 : decode prog_6_method_2_code 56 = .ok (.iconst 0, 1) := by decide +kernel
theorem d_V_lookAt_57 : decode prog_6_method_2_code 57 = .ok (.goto 14, 3) := by decide +kernel
theorem d_V_lookAt_60 : decode prog_6_method_2_code 60 = .ok (.aload_n 1, 1) := by decide +kernel
theorem d_V_lookAt_61 : decode prog_6_method_2_code 61 = .ok (.getfield 46, 3) := by decide +kernel
theorem d_V_lookAt_64 : decode prog_6_method_2_code 64 = .ok (.iload 4, 2) := by decide +kernel
theorem d_V_lookAt_66 : decode prog_6_method_2_code 66 = .ok (.iaload, 1) := by decide +kernel
theorem d_V_lookAt_67 : decode prog_6_method_2_code 67 = .ok (.iload_n 2, 1) := by decide +kernel
theorem d_V_lookAt_68 : decode prog_6_method_2_code 68 = .ok (.iconst (-1), 1) := by decide +kernel
theorem d_V_lookAt_69 : decode prog_6_method_2_code 69 = .ok (.ixor, 1) := by decide +kernel
theorem d_V_lookAt_70 : decode prog_6_method_2_code 70 = .ok (.iand, 1) := by decide +kernel
theorem d_V_lookAt_71 : decode prog_6_method_2_code 71 = .ok (.iastore, 1) := by decide +kernel
theorem d_V_lookAt_72 : decode prog_6_method_2_code 72 = .ok (.iinc 4 1, 3) := by decide +kernel
theorem d_V_lookAt_75 : decode prog_6_method_2_code 75 = .ok (.goto (-72), 3) := by decide +kernel
theorem d_V_lookAt_78 : decode prog_6_method_2_code 78 = .ok (.return_, 1) := by decide +kernel
theorem d_V_below_0 : decode prog_6_method_3_code 0 = .ok (.aload_n 0, 1) := by decide +kernel
theorem d_V_below_1 : decode prog_6_method_3_code 1 = .ok (.getfield 15, 3) := by decide +kernel
theorem d_V_below_4 : decode prog_6_method_3_code 4 = .ok (.aload_n 0, 1) := by decide +kernel
theorem d_V_below_5 : decode prog_6_method_3_code 5 = .ok (.getfield 15, 3) := by decide +kernel
theorem d_V_below_8 : decode prog_6_method_3_code 8 = .ok (.iload_n 1, 1) := by decide +kernel
theorem d_V_below_9 : decode prog_6_method_3_code 9 = .ok (.iaload, 1) := by decide +kernel
theorem d_V_below_10 : decode prog_6_method_3_code 10 = .ok (.invokestatic 49, 3) := by decide +kernel
theorem d_V_below_13 : decode prog_6_method_3_code 13 = .ok (.ireturn, 1) := by decide +kernel
theorem d_X_separated_0 : decode prog_1_method_10_code 0 = .ok (.aload_n 0, 1) := by decide +kernel
theorem d_X_separated_1 : decode prog_1_method_10_code 1 = .ok (.iload_n 1, 1) := by decide +kernel
theorem d_X_separated_2 : decode prog_1_method_10_code 2 = .ok (.iload_n 2, 1) := by decide +kernel
theorem d_X_separated_3 : decode prog_1_method_10_code 3 = .ok (.iload_n 3, 1) := by decide +kernel
theorem d_X_separated_4 : decode prog_1_method_10_code 4 = .ok (.invokevirtual 139, 3) := by decide +kernel
theorem d_X_separated_7 : decode prog_1_method_10_code 7 = .ok (.ifCond .ne 6, 3) := by decide +kernel
theorem d_X_separated_10 : decode prog_1_method_10_code 10 = .ok (.bipush (-2), 2) := by decide +kernel
theorem d_X_separated_12 : decode prog_1_method_10_code 12 = .ok (.ireturn, 1) := by decide +kernel
theorem d_X_separated_13 : decode prog_1_method_10_code 13 = .ok (.aload_n 0, 1) := by decide +kernel
theorem d_X_separated_14 : decode prog_1_method_10_code 14 = .ok (.getfield 33, 3) := by decide +kernel
theorem d_X_separated_17 : decode prog_1_method_10_code 17 = .ok (.aload_n 0, 1) := by decide +kernel
theorem d_X_separated_18 : decode prog_1_method_10_code 18 = .ok (.getfield 12, 3) := by decide +kernel
theorem d_X_separated_21 : decode prog_1_method_10_code 21 = .ok (.aload_n 0, 1) := by decide +kernel
theorem d_X_separated_22 : decode prog_1_method_10_code 22 = .ok (.getfield 26, 3) := by decide +kernel
theorem d_X_separated_25 : decode prog_1_method_10_code 25 = .ok (.getfield 126, 3) := by decide +kernel
theorem d_X_separated_28 : decode prog_1_method_10_code 28 = .ok (.iconst 0, 1) := by decide +kernel
theorem d_X_separated_29 : decode prog_1_method_10_code 29 = .ok (.invokevirtual 129, 3) := by decide +kernel
theorem d_X_separated_32 : decode prog_1_method_10_code 32 = .ok (.aload_n 0, 1) := by decide +kernel
theorem d_X_separated_33 : decode prog_1_method_10_code 33 = .ok (.getfield 33, 3) := by decide +kernel
theorem d_X_separated_36 : decode prog_1_method_10_code 36 = .ok (.iload_n 1, 1) := by decide +kernel
theorem d_X_separated_37 : decode prog_1_method_10_code 37 = .ok (.iload_n 2, 1) := by decide +kernel
theorem d_X_separated_38 : decode prog_1_method_10_code 38 = .ok (.iload_n 3, 1) := by decide +kernel
theorem d_X_separated_39 : decode prog_1_method_10_code 39 = .ok (.invokevirtual 143, 3) := by decide +kernel
theorem d_X_separated_42 : decode prog_1_method_10_code 42 = .ok (.iconst (-1), 1) := by decide +kernel
theorem d_X_separated_43 : decode prog_1_method_10_code 43 = .ok (.if_icmp .ne 7, 3) := by decide +kernel
theorem d_X_separated_46 : decode prog_1_method_10_code 46 = .ok (.iconst 1, 1) := by decide +kernel
theorem d_X_separated_47 : decode prog_1_method_10_code 47 = .ok (.goto 4, 3) := by decide +kernel
theorem d_X_separated_50 : decode prog_1_method_10_code 50 = .ok (.iconst 0, 1) := by decide +kernel
theorem d_X_separated_51 : decode prog_1_method_10_code 51 = .ok (.invokestatic 147, 3) := by decide +kernel
theorem d_X_separated_54 : decode prog_1_method_10_code 54 = .ok (.ireturn, 1) := by decide +kernel
theorem d_X_isQuestion_0 : decode prog_1_method_26_code 0 = .ok (.aload_n 0, 1) := by decide +kernel
theorem d_X_isQuestion_1 : decode prog_1_method_26_code 1 = .ok (.iload_n 1, 1) := by decide +kernel
theorem d_X_isQuestion_2 : decode prog_1_method_26_code 2 = .ok (.iload_n 2, 1) := by decide +kernel
theorem d_X_isQuestion_3 : decode prog_1_method_26_code 3 = .ok (.invokevirtual 74, 3) := by decide +kernel
theorem d_X_isQuestion_6 : decode prog_1_method_26_code 6 = .ok (.ifCond .eq 31, 3) := by decide +kernel
theorem d_X_isQuestion_9 : decode prog_1_method_26_code 9 = .ok (.aload_n 0, 1) := by decide +kernel
theorem d_X_isQuestion_10 : decode prog_1_method_26_code 10 = .ok (.iload_n 3, 1) := by decide +kernel
theorem d_X_isQuestion_11 : decode prog_1_method_26_code 11 = .ok (.invokevirtual 151, 3) := by decide +kernel
theorem d_X_isQuestion_14 : decode prog_1_method_26_code 14 = .ok (.ifCond .eq 23, 3) := by decide +kernel
theorem d_X_isQuestion_17 : decode prog_1_method_26_code 17 = .ok (.iload_n 3, 1) := by decide +kernel
theorem d_X_isQuestion_18 : decode prog_1_method_26_code 18 = .ok (.iload_n 1, 1) := by decide +kernel
theorem d_X_isQuestion_19 : decode prog_1_method_26_code 19 = .ok (.invokestatic 82, 3) := by decide +kernel
theorem d_X_isQuestion_22 : decode prog_1_method_26_code 22 = .ok (.ifCond .ne 15, 3) := by decide +kernel
theorem d_X_isQuestion_25 : decode prog_1_method_26_code 25 = .ok (.iload_n 3, 1) := by decide +kernel
theorem d_X_isQuestion_26 : decode prog_1_method_26_code 26 = .ok (.iload_n 2, 1) := by decide +kernel
theorem d_X_isQuestion_27 : decode prog_1_method_26_code 27 = .ok (.invokestatic 82, 3) := by decide +kernel
theorem d_X_isQuestion_30 : decode prog_1_method_26_code 30 = .ok (.ifCond .ne 7, 3) := by decide +kernel
theorem d_X_isQuestion_33 : decode prog_1_method_26_code 33 = .ok (.iconst 1, 1) := by decide +kernel
theorem d_X_isQuestion_34 : decode prog_1_method_26_code 34 = .ok (.goto 4, 3) := by decide +kernel
theorem d_X_isQuestion_37 : decode prog_1_method_26_code 37 = .ok (.iconst 0, 1) := by decide +kernel
theorem d_X_isQuestion_38 : decode prog_1_method_26_code 38 = .ok (.ireturn, 1) := by decide +kernel
theorem d_X_isSet_0 : decode prog_1_method_25_code 0 = .ok (.iload_n 1, 1) := by decide +kernel
theorem d_X_isSet_1 : decode prog_1_method_25_code 1 = .ok (.ifCond .lt 18, 3) := by decide +kernel
theorem d_X_isSet_4 : decode prog_1_method_25_code 4 = .ok (.iload_n 1, 1) := by decide +kernel
theorem d_X_isSet_5 : decode prog_1_method_25_code 5 = .ok (.aload_n 0, 1) := by decide +kernel
theorem d_X_isSet_6 : decode prog_1_method_25_code 6 = .ok (.getfield 12, 3) := by decide +kernel
theorem d_X_isSet_9 : decode prog_1_method_25_code 9 = .ok (.invokevirtual 156, 3) := by decide +kernel
theorem d_X_isSet_12 : decode prog_1_method_25_code 12 = .ok (.if_icmp .gt 7, 3) := by decide +kernel
theorem d_X_isSet_15 : decode prog_1_method_25_code 15 = .ok (.iconst 1, 1) := by decide +kernel
theorem d_X_isSet_16 : decode prog_1_method_25_code 16 = .ok (.goto 4, 3) := by decide +kernel
theorem d_X_isSet_19 : decode prog_1_method_25_code 19 = .ok (.iconst 0, 1) := by decide +kernel
theorem d_X_isSet_20 : decode prog_1_method_25_code 20 = .ok (.ireturn, 1) := by decide +kernel
theorem d_G_everyPlace_0 : decode prog_2_method_6_code 0 = .ok (.aload_n 0, 1) := by decide +kernel
theorem d_G_everyPlace_1 : decode prog_2_method_6_code 1 = .ok (.getfield 9, 3) := by decide +kernel
theorem d_G_everyPlace_4 : decode prog_2_method_6_code 4 = .ok (.invokestatic 37, 3) := by decide +kernel
theorem d_G_everyPlace_7 : decode prog_2_method_6_code 7 = .ok (.iconst 1, 1) := by decide +kernel
theorem d_G_everyPlace_8 : decode prog_2_method_6_code 8 = .ok (.isub, 1) := by decide +kernel
theorem d_G_everyPlace_9 : decode prog_2_method_6_code 9 = .ok (.ireturn, 1) := by decide +kernel
theorem d_V_shortest_0 : decode prog_6_method_4_code 0 = .ok (.aload_n 0, 1) := by decide +kernel
theorem d_V_shortest_1 : decode prog_6_method_4_code 1 = .ok (.iload_n 1, 1) := by decide +kernel
theorem d_V_shortest_2 : decode prog_6_method_4_code 2 = .ok (.iload_n 3, 1) := by decide +kernel
theorem d_V_shortest_3 : decode prog_6_method_4_code 3 = .ok (.invokevirtual 53, 3) := by decide +kernel
theorem d_V_shortest_6 : decode prog_6_method_4_code 6 = .ok (.iconst 1, 1) := by decide +kernel
theorem d_V_shortest_7 : decode prog_6_method_4_code 7 = .ok (.istore 4, 2) := by decide +kernel
theorem d_V_shortest_9 : decode prog_6_method_4_code 9 = .ok (.iload 4, 2) := by decide +kernel
theorem d_V_shortest_11 : decode prog_6_method_4_code 11 = .ok (.bipush 16, 2) := by decide +kernel
theorem d_V_shortest_13 : decode prog_6_method_4_code 13 = .ok (.if_icmp .gt 32, 3) := by decide +kernel
theorem d_V_shortest_16 : decode prog_6_method_4_code 16 = .ok (.aload_n 0, 1) := by decide +kernel
theorem d_V_shortest_17 : decode prog_6_method_4_code 17 = .ok (.getfield 25, 3) := by decide +kernel
theorem d_V_shortest_20 : decode prog_6_method_4_code 20 = .ok (.aload_n 0, 1) := by decide +kernel
theorem d_V_shortest_21 : decode prog_6_method_4_code 21 = .ok (.getfield 28, 3) := by decide +kernel
theorem d_V_shortest_24 : decode prog_6_method_4_code 24 = .ok (.ior, 1) := by decide +kernel
theorem d_V_shortest_25 : decode prog_6_method_4_code 25 = .ok (.iload_n 2, 1) := by decide +kernel
theorem d_V_shortest_26 : decode prog_6_method_4_code 26 = .ok (.invokestatic 37, 3) := by decide +kernel
theorem d_V_shortest_29 : decode prog_6_method_4_code 29 = .ok (.ifCond .eq 6, 3) := by decide +kernel
theorem d_V_shortest_32 : decode prog_6_method_4_code 32 = .ok (.iload 4, 2) := by decide +kernel
theorem d_V_shortest_34 : decode prog_6_method_4_code 34 = .ok (.ireturn, 1) := by decide +kernel
theorem d_V_shortest_35 : decode prog_6_method_4_code 35 = .ok (.aload_n 0, 1) := by decide +kernel
theorem d_V_shortest_36 : decode prog_6_method_4_code 36 = .ok (.invokevirtual 57, 3) := by decide +kernel
theorem d_V_shortest_39 : decode prog_6_method_4_code 39 = .ok (.iinc 4 1, 3) := by decide +kernel
theorem d_V_shortest_42 : decode prog_6_method_4_code 42 = .ok (.goto (-33), 3) := by decide +kernel
theorem d_V_shortest_45 : decode prog_6_method_4_code 45 = .ok (.iconst (-1), 1) := by decide +kernel
theorem d_V_shortest_46 : decode prog_6_method_4_code 46 = .ok (.ireturn, 1) := by decide +kernel
theorem d_V_start_0 : decode prog_6_method_6_code 0 = .ok (.aload_n 0, 1) := by decide +kernel
theorem d_V_start_1 : decode prog_6_method_6_code 1 = .ok (.iload_n 2, 1) := by decide +kernel
theorem d_V_start_2 : decode prog_6_method_6_code 2 = .ok (.putfield 18, 3) := by decide +kernel
theorem d_V_start_5 : decode prog_6_method_6_code 5 = .ok (.aload_n 0, 1) := by decide +kernel
theorem d_V_start_6 : decode prog_6_method_6_code 6 = .ok (.aload_n 0, 1) := by decide +kernel
theorem d_V_start_7 : decode prog_6_method_6_code 7 = .ok (.getfield 9, 3) := by decide +kernel
theorem d_V_start_10 : decode prog_6_method_6_code 10 = .ok (.iload_n 2, 1) := by decide +kernel
theorem d_V_start_11 : decode prog_6_method_6_code 11 = .ok (.invokestatic 49, 3) := by decide +kernel
theorem d_V_start_14 : decode prog_6_method_6_code 14 = .ok (.putfield 22, 3) := by decide +kernel
theorem d_V_start_17 : decode prog_6_method_6_code 17 = .ok (.aload_n 0, 1) := by decide +kernel
theorem d_V_start_18 : decode prog_6_method_6_code 18 = .ok (.aload_n 0, 1) := by decide +kernel
theorem d_V_start_19 : decode prog_6_method_6_code 19 = .ok (.getfield 15, 3) := by decide +kernel
theorem d_V_start_22 : decode prog_6_method_6_code 22 = .ok (.iload_n 1, 1) := by decide +kernel
theorem d_V_start_23 : decode prog_6_method_6_code 23 = .ok (.iaload, 1) := by decide +kernel
theorem d_V_start_24 : decode prog_6_method_6_code 24 = .ok (.putfield 25, 3) := by decide +kernel
theorem d_V_start_27 : decode prog_6_method_6_code 27 = .ok (.aload_n 0, 1) := by decide +kernel
theorem d_V_start_28 : decode prog_6_method_6_code 28 = .ok (.aload_n 0, 1) := by decide +kernel
theorem d_V_start_29 : decode prog_6_method_6_code 29 = .ok (.getfield 9, 3) := by decide +kernel
theorem d_V_start_32 : decode prog_6_method_6_code 32 = .ok (.iload_n 1, 1) := by decide +kernel
theorem d_V_start_33 : decode prog_6_method_6_code 33 = .ok (.iaload, 1) := by decide +kernel
theorem d_V_start_34 : decode prog_6_method_6_code 34 = .ok (.putfield 28, 3) := by decide +kernel
theorem d_V_start_37 : decode prog_6_method_6_code 37 = .ok (.aload_n 0, 1) := by decide +kernel
theorem d_V_start_38 : decode prog_6_method_6_code 38 = .ok (.aload_n 0, 1) := by decide +kernel
theorem d_V_start_39 : decode prog_6_method_6_code 39 = .ok (.getfield 25, 3) := by decide +kernel
theorem d_V_start_42 : decode prog_6_method_6_code 42 = .ok (.putfield 31, 3) := by decide +kernel
theorem d_V_start_45 : decode prog_6_method_6_code 45 = .ok (.aload_n 0, 1) := by decide +kernel
theorem d_V_start_46 : decode prog_6_method_6_code 46 = .ok (.aload_n 0, 1) := by decide +kernel
theorem d_V_start_47 : decode prog_6_method_6_code 47 = .ok (.getfield 28, 3) := by decide +kernel
theorem d_V_start_50 : decode prog_6_method_6_code 50 = .ok (.putfield 34, 3) := by decide +kernel
theorem d_V_start_53 : decode prog_6_method_6_code 53 = .ok (.return_, 1) := by decide +kernel
theorem d_V_step_0 : decode prog_6_method_7_code 0 = .ok (.aload_n 0, 1) := by decide +kernel
theorem d_V_step_1 : decode prog_6_method_7_code 1 = .ok (.getfield 28, 3) := by decide +kernel
theorem d_V_step_4 : decode prog_6_method_7_code 4 = .ok (.aload_n 0, 1) := by decide +kernel
theorem d_V_step_5 : decode prog_6_method_7_code 5 = .ok (.getfield 18, 3) := by decide +kernel
theorem d_V_step_8 : decode prog_6_method_7_code 8 = .ok (.iconst (-1), 1) := by decide +kernel
theorem d_V_step_9 : decode prog_6_method_7_code 9 = .ok (.ixor, 1) := by decide +kernel
theorem d_V_step_10 : decode prog_6_method_7_code 10 = .ok (.iand, 1) := by decide +kernel
theorem d_V_step_11 : decode prog_6_method_7_code 11 = .ok (.istore_n 1, 1) := by decide +kernel
theorem d_V_step_12 : decode prog_6_method_7_code 12 = .ok (.aload_n 0, 1) := by decide +kernel
theorem d_V_step_13 : decode prog_6_method_7_code 13 = .ok (.getfield 15, 3) := by decide +kernel
theorem d_V_step_16 : decode prog_6_method_7_code 16 = .ok (.iload_n 1, 1) := by decide +kernel
theorem d_V_step_17 : decode prog_6_method_7_code 17 = .ok (.aload_n 0, 1) := by decide +kernel
theorem d_V_step_18 : decode prog_6_method_7_code 18 = .ok (.getfield 25, 3) := by decide +kernel
theorem d_V_step_21 : decode prog_6_method_7_code 21 = .ok (.aload_n 0, 1) := by decide +kernel
theorem d_V_step_22 : decode prog_6_method_7_code 22 = .ok (.getfield 18, 3) := by decide +kernel
theorem d_V_step_25 : decode prog_6_method_7_code 25 = .ok (.iconst (-1), 1) := by decide +kernel
theorem d_V_step_26 : decode prog_6_method_7_code 26 = .ok (.ixor, 1) := by decide +kernel
theorem d_V_step_27 : decode prog_6_method_7_code 27 = .ok (.iand, 1) := by decide +kernel
theorem d_V_step_28 : decode prog_6_method_7_code 28 = .ok (.ior, 1) := by decide +kernel
theorem d_V_step_29 : decode prog_6_method_7_code 29 = .ok (.invokestatic 60, 3) := by decide +kernel
theorem d_V_step_32 : decode prog_6_method_7_code 32 = .ok (.aload_n 0, 1) := by decide +kernel
theorem d_V_step_33 : decode prog_6_method_7_code 33 = .ok (.getfield 31, 3) := by decide +kernel
theorem d_V_step_36 : decode prog_6_method_7_code 36 = .ok (.iconst (-1), 1) := by decide +kernel
theorem d_V_step_37 : decode prog_6_method_7_code 37 = .ok (.ixor, 1) := by decide +kernel
theorem d_V_step_38 : decode prog_6_method_7_code 38 = .ok (.iand, 1) := by decide +kernel
theorem d_V_step_39 : decode prog_6_method_7_code 39 = .ok (.istore_n 2, 1) := by decide +kernel
theorem d_V_step_40 : decode prog_6_method_7_code 40 = .ok (.aload_n 0, 1) := by decide +kernel
theorem d_V_step_41 : decode prog_6_method_7_code 41 = .ok (.getfield 9, 3) := by decide +kernel
theorem d_V_step_44 : decode prog_6_method_7_code 44 = .ok (.iload_n 1, 1) := by decide +kernel
theorem d_V_step_45 : decode prog_6_method_7_code 45 = .ok (.aload_n 0, 1) := by decide +kernel
theorem d_V_step_46 : decode prog_6_method_7_code 46 = .ok (.getfield 25, 3) := by decide +kernel
theorem d_V_step_49 : decode prog_6_method_7_code 49 = .ok (.aload_n 0, 1) := by decide +kernel
theorem d_V_step_50 : decode prog_6_method_7_code 50 = .ok (.getfield 22, 3) := by decide +kernel
theorem d_V_step_53 : decode prog_6_method_7_code 53 = .ok (.iand, 1) := by decide +kernel
end
section
theorem d_V_step_54 : decode prog_6_method_7_code 54 = .ok (.ior, 1) := by decide +kernel
theorem d_V_step_55 : decode prog_6_method_7_code 55 = .ok (.invokestatic 60, 3) := by decide +kernel
theorem d_V_step_58 : decode prog_6_method_7_code 58 = .ok (.aload_n 0, 1) := by decide +kernel
theorem d_V_step_59 : decode prog_6_method_7_code 59 = .ok (.getfield 34, 3) := by decide +kernel
theorem d_V_step_62 : decode prog_6_method_7_code 62 = .ok (.iconst (-1), 1) := by decide +kernel
theorem d_V_step_63 : decode prog_6_method_7_code 63 = .ok (.ixor, 1) := by decide +kernel
theorem d_V_step_64 : decode prog_6_method_7_code 64 = .ok (.iand, 1) := by decide +kernel
theorem d_V_step_65 : decode prog_6_method_7_code 65 = .ok (.istore_n 3, 1) := by decide +kernel
theorem d_V_step_66 : decode prog_6_method_7_code 66 = .ok (.aload_n 0, 1) := by decide +kernel
theorem d_V_step_67 : decode prog_6_method_7_code 67 = .ok (.iload_n 2, 1) := by decide +kernel
theorem d_V_step_68 : decode prog_6_method_7_code 68 = .ok (.putfield 25, 3) := by decide +kernel
theorem d_V_step_71 : decode prog_6_method_7_code 71 = .ok (.aload_n 0, 1) := by decide +kernel
theorem d_V_step_72 : decode prog_6_method_7_code 72 = .ok (.iload_n 3, 1) := by decide +kernel
theorem d_V_step_73 : decode prog_6_method_7_code 73 = .ok (.putfield 28, 3) := by decide +kernel
theorem d_V_step_76 : decode prog_6_method_7_code 76 = .ok (.aload_n 0, 1) := by decide +kernel
theorem d_V_step_77 : decode prog_6_method_7_code 77 = .ok (.dup, 1) := by decide +kernel
theorem d_V_step_78 : decode prog_6_method_7_code 78 = .ok (.getfield 31, 3) := by decide +kernel
theorem d_V_step_81 : decode prog_6_method_7_code 81 = .ok (.iload_n 2, 1) := by decide +kernel
theorem d_V_step_82 : decode prog_6_method_7_code 82 = .ok (.ior, 1) := by decide +kernel
theorem d_V_step_83 : decode prog_6_method_7_code 83 = .ok (.putfield 31, 3) := by decide +kernel
theorem d_V_step_86 : decode prog_6_method_7_code 86 = .ok (.aload_n 0, 1) := by decide +kernel
theorem d_V_step_87 : decode prog_6_method_7_code 87 = .ok (.dup, 1) := by decide +kernel
theorem d_V_step_88 : decode prog_6_method_7_code 88 = .ok (.getfield 34, 3) := by decide +kernel
theorem d_V_step_91 : decode prog_6_method_7_code 91 = .ok (.iload_n 3, 1) := by decide +kernel
theorem d_V_step_92 : decode prog_6_method_7_code 92 = .ok (.ior, 1) := by decide +kernel
theorem d_V_step_93 : decode prog_6_method_7_code 93 = .ok (.putfield 34, 3) := by decide +kernel
theorem d_V_step_96 : decode prog_6_method_7_code 96 = .ok (.return_, 1) := by decide +kernel
theorem d_X_answer_0 : decode prog_1_method_30_code 0 = .ok (.iload_n 0, 1) := by decide +kernel
theorem d_X_answer_1 : decode prog_1_method_30_code 1 = .ok (.ifCond .eq 7, 3) := by decide +kernel
theorem d_X_answer_4 : decode prog_1_method_30_code 4 = .ok (.iconst 1, 1) := by decide +kernel
theorem d_X_answer_5 : decode prog_1_method_30_code 5 = .ok (.goto 4, 3) := by decide +kernel
theorem d_X_answer_8 : decode prog_1_method_30_code 8 = .ok (.iconst 0, 1) := by decide +kernel
theorem d_X_answer_9 : decode prog_1_method_30_code 9 = .ok (.ireturn, 1) := by decide +kernel
theorem d_X_walk_0 : decode prog_1_method_11_code 0 = .ok (.aload_n 0, 1) := by decide +kernel
theorem d_X_walk_1 : decode prog_1_method_11_code 1 = .ok (.iload_n 1, 1) := by decide +kernel
theorem d_X_walk_2 : decode prog_1_method_11_code 2 = .ok (.iload_n 2, 1) := by decide +kernel
theorem d_X_walk_3 : decode prog_1_method_11_code 3 = .ok (.iload_n 3, 1) := by decide +kernel
theorem d_X_walk_4 : decode prog_1_method_11_code 4 = .ok (.invokevirtual 139, 3) := by decide +kernel
theorem d_X_walk_7 : decode prog_1_method_11_code 7 = .ok (.ifCond .ne 6, 3) := by decide +kernel
theorem d_X_walk_10 : decode prog_1_method_11_code 10 = .ok (.bipush (-2), 2) := by decide +kernel
theorem d_X_walk_12 : decode prog_1_method_11_code 12 = .ok (.ireturn, 1) := by decide +kernel
theorem d_X_walk_13 : decode prog_1_method_11_code 13 = .ok (.aload_n 0, 1) := by decide +kernel
theorem d_X_walk_14 : decode prog_1_method_11_code 14 = .ok (.getfield 33, 3) := by decide +kernel
theorem d_X_walk_17 : decode prog_1_method_11_code 17 = .ok (.aload_n 0, 1) := by decide +kernel
theorem d_X_walk_18 : decode prog_1_method_11_code 18 = .ok (.getfield 12, 3) := by decide +kernel
theorem d_X_walk_21 : decode prog_1_method_11_code 21 = .ok (.aload_n 0, 1) := by decide +kernel
theorem d_X_walk_22 : decode prog_1_method_11_code 22 = .ok (.getfield 26, 3) := by decide +kernel
theorem d_X_walk_25 : decode prog_1_method_11_code 25 = .ok (.getfield 126, 3) := by decide +kernel
theorem d_X_walk_28 : decode prog_1_method_11_code 28 = .ok (.iconst 0, 1) := by decide +kernel
theorem d_X_walk_29 : decode prog_1_method_11_code 29 = .ok (.invokevirtual 129, 3) := by decide +kernel
theorem d_X_walk_32 : decode prog_1_method_11_code 32 = .ok (.aload_n 0, 1) := by decide +kernel
theorem d_X_walk_33 : decode prog_1_method_11_code 33 = .ok (.getfield 33, 3) := by decide +kernel
theorem d_X_walk_36 : decode prog_1_method_11_code 36 = .ok (.iload_n 1, 1) := by decide +kernel
theorem d_X_walk_37 : decode prog_1_method_11_code 37 = .ok (.iload_n 2, 1) := by decide +kernel
theorem d_X_walk_38 : decode prog_1_method_11_code 38 = .ok (.iload_n 3, 1) := by decide +kernel
theorem d_X_walk_39 : decode prog_1_method_11_code 39 = .ok (.invokevirtual 143, 3) := by decide +kernel
theorem d_X_walk_42 : decode prog_1_method_11_code 42 = .ok (.ireturn, 1) := by decide +kernel
theorem d_X_weight_0 : decode prog_1_method_12_code 0 = .ok (.aload_n 0, 1) := by decide +kernel
theorem d_X_weight_1 : decode prog_1_method_12_code 1 = .ok (.iload_n 1, 1) := by decide +kernel
theorem d_X_weight_2 : decode prog_1_method_12_code 2 = .ok (.invokevirtual 151, 3) := by decide +kernel
theorem d_X_weight_5 : decode prog_1_method_12_code 5 = .ok (.ifCond .eq 11, 3) := by decide +kernel
theorem d_X_weight_8 : decode prog_1_method_12_code 8 = .ok (.aload_n 0, 1) := by decide +kernel
theorem d_X_weight_9 : decode prog_1_method_12_code 9 = .ok (.iload_n 2, 1) := by decide +kernel
theorem d_X_weight_10 : decode prog_1_method_12_code 10 = .ok (.invokevirtual 151, 3) := by decide +kernel
theorem d_X_weight_13 : decode prog_1_method_12_code 13 = .ok (.ifCond .ne 7, 3) := by decide +kernel
theorem d_X_weight_16 : decode prog_1_method_12_code 16 = .ok (.ldc2_w 154, 3) := by decide +kernel
theorem d_X_weight_19 : decode prog_1_method_12_code 19 = .ok (.lreturn, 1) := by decide +kernel
theorem d_X_weight_20 : decode prog_1_method_12_code 20 = .ok (.lconst 0, 1) := by decide +kernel
theorem d_X_weight_21 : decode prog_1_method_12_code 21 = .ok (.lstore_n 3, 1) := by decide +kernel
theorem d_X_weight_22 : decode prog_1_method_12_code 22 = .ok (.aload_n 0, 1) := by decide +kernel
theorem d_X_weight_23 : decode prog_1_method_12_code 23 = .ok (.getfield 12, 3) := by decide +kernel
theorem d_X_weight_26 : decode prog_1_method_12_code 26 = .ok (.invokevirtual 156, 3) := by decide +kernel
theorem d_X_weight_29 : decode prog_1_method_12_code 29 = .ok (.istore 5, 2) := by decide +kernel
theorem d_X_weight_31 : decode prog_1_method_12_code 31 = .ok (.iconst 0, 1) := by decide +kernel
theorem d_X_weight_32 : decode prog_1_method_12_code 32 = .ok (.istore 6, 2) := by decide +kernel
theorem d_X_weight_34 : decode prog_1_method_12_code 34 = .ok (.iload 6, 2) := by decide +kernel
theorem d_X_weight_36 : decode prog_1_method_12_code 36 = .ok (.iload 5, 2) := by decide +kernel
theorem d_X_weight_38 : decode prog_1_method_12_code 38 = .ok (.if_icmp .gt 34, 3) := by decide +kernel
theorem d_X_weight_41 : decode prog_1_method_12_code 41 = .ok (.iload 6, 2) := by decide +kernel
theorem d_X_weight_43 : decode prog_1_method_12_code 43 = .ok (.iload_n 2, 1) := by decide +kernel
theorem d_X_weight_44 : decode prog_1_method_12_code 44 = .ok (.ixor, 1) := by decide +kernel
theorem d_X_weight_45 : decode prog_1_method_12_code 45 = .ok (.iload_n 1, 1) := by decide +kernel
theorem d_X_weight_46 : decode prog_1_method_12_code 46 = .ok (.iand, 1) := by decide +kernel
theorem d_X_weight_47 : decode prog_1_method_12_code 47 = .ok (.ifCond .ne 19, 3) := by decide +kernel
theorem d_X_weight_50 : decode prog_1_method_12_code 50 = .ok (.lload_n 3, 1) := by decide +kernel
theorem d_X_weight_51 : decode prog_1_method_12_code 51 = .ok (.aload_n 0, 1) := by decide +kernel
theorem d_X_weight_52 : decode prog_1_method_12_code 52 = .ok (.getfield 26, 3) := by decide +kernel
theorem d_X_weight_55 : decode prog_1_method_12_code 55 = .ok (.aload_n 0, 1) := by decide +kernel
theorem d_X_weight_56 : decode prog_1_method_12_code 56 = .ok (.getfield 12, 3) := by decide +kernel
theorem d_X_weight_59 : decode prog_1_method_12_code 59 = .ok (.iload 6, 2) := by decide +kernel
theorem d_X_weight_61 : decode prog_1_method_12_code 61 = .ok (.invokevirtual 160, 3) := by decide +kernel
theorem d_X_weight_64 : decode prog_1_method_12_code 64 = .ok (.ladd, 1) := by decide +kernel
theorem d_X_weight_65 : decode prog_1_method_12_code 65 = .ok (.lstore_n 3, 1) := by decide +kernel
theorem d_X_weight_66 : decode prog_1_method_12_code 66 = .ok (.iinc 6 1, 3) := by decide +kernel
theorem d_X_weight_69 : decode prog_1_method_12_code 69 = .ok (.goto (-35), 3) := by decide +kernel
theorem d_X_weight_72 : decode prog_1_method_12_code 72 = .ok (.lload_n 3, 1) := by decide +kernel
theorem d_X_weight_73 : decode prog_1_method_12_code 73 = .ok (.lreturn, 1) := by decide +kernel
theorem d_T_product_0 : decode prog_5_method_6_code 0 = .ok (.iload_n 2, 1) := by decide +kernel
theorem d_T_product_1 : decode prog_5_method_6_code 1 = .ok (.aload_n 0, 1) := by decide +kernel
theorem d_T_product_2 : decode prog_5_method_6_code 2 = .ok (.getfield 20, 3) := by decide +kernel
theorem d_T_product_5 : decode prog_5_method_6_code 5 = .ok (.ixor, 1) := by decide +kernel
theorem d_T_product_6 : decode prog_5_method_6_code 6 = .ok (.aload_n 0, 1) := by decide +kernel
theorem d_T_product_7 : decode prog_5_method_6_code 7 = .ok (.getfield 16, 3) := by decide +kernel
theorem d_T_product_10 : decode prog_5_method_6_code 10 = .ok (.iand, 1) := by decide +kernel
theorem d_T_product_11 : decode prog_5_method_6_code 11 = .ok (.ifCond .eq 5, 3) := by decide +kernel
theorem d_T_product_14 : decode prog_5_method_6_code 14 = .ok (.lconst 0, 1) := by decide +kernel
theorem d_T_product_15 : decode prog_5_method_6_code 15 = .ok (.lreturn, 1) := by decide +kernel
theorem d_T_product_16 : decode prog_5_method_6_code 16 = .ok (.lconst 1, 1) := by decide +kernel
theorem d_T_product_17 : decode prog_5_method_6_code 17 = .ok (.lstore_n 3, 1) := by decide +kernel
theorem d_T_product_18 : decode prog_5_method_6_code 18 = .ok (.iconst 0, 1) := by decide +kernel
theorem d_T_product_19 : decode prog_5_method_6_code 19 = .ok (.istore 5, 2) := by decide +kernel
theorem d_T_product_21 : decode prog_5_method_6_code 21 = .ok (.iload 5, 2) := by decide +kernel
theorem d_T_product_23 : decode prog_5_method_6_code 23 = .ok (.aload_n 1, 1) := by decide +kernel
theorem d_T_product_24 : decode prog_5_method_6_code 24 = .ok (.getfield 37, 3) := by decide +kernel
theorem d_T_product_27 : decode prog_5_method_6_code 27 = .ok (.if_icmp .ge 45, 3) := by decide +kernel
theorem d_T_product_30 : decode prog_5_method_6_code 30 = .ok (.lload_n 3, 1) := by decide +kernel
theorem d_T_product_31 : decode prog_5_method_6_code 31 = .ok (.lconst 0, 1) := by decide +kernel
theorem d_T_product_32 : decode prog_5_method_6_code 32 = .ok (.lcmp, 1) := by decide +kernel
theorem d_T_product_33 : decode prog_5_method_6_code 33 = .ok (.ifCond .eq 39, 3) := by decide +kernel
theorem d_T_product_36 : decode prog_5_method_6_code 36 = .ok (.lload_n 3, 1) := by decide +kernel
theorem d_T_product_37 : decode prog_5_method_6_code 37 = .ok (.aload_n 0, 1) := by decide +kernel
theorem d_T_product_38 : decode prog_5_method_6_code 38 = .ok (.getfield 16, 3) := by decide +kernel
theorem d_T_product_41 : decode prog_5_method_6_code 41 = .ok (.iload 5, 2) := by decide +kernel
theorem d_T_product_43 : decode prog_5_method_6_code 43 = .ok (.invokestatic 33, 3) := by decide +kernel
theorem d_T_product_46 : decode prog_5_method_6_code 46 = .ok (.ifCond .eq 9, 3) := by decide +kernel
theorem d_T_product_49 : decode prog_5_method_6_code 49 = .ok (.ldc2_w 42, 3) := by decide +kernel
theorem d_T_product_52 : decode prog_5_method_6_code 52 = .ok (.goto 12, 3) := by decide +kernel
theorem d_T_product_55 : decode prog_5_method_6_code 55 = .ok (.aload_n 0, 1) := by decide +kernel
theorem d_T_product_56 : decode prog_5_method_6_code 56 = .ok (.aload_n 1, 1) := by decide +kernel
theorem d_T_product_57 : decode prog_5_method_6_code 57 = .ok (.iload 5, 2) := by decide +kernel
theorem d_T_product_59 : decode prog_5_method_6_code 59 = .ok (.iload_n 2, 1) := by decide +kernel
theorem d_T_product_60 : decode prog_5_method_6_code 60 = .ok (.invokevirtual 44, 3) := by decide +kernel
theorem d_T_product_63 : decode prog_5_method_6_code 63 = .ok (.i2l, 1) := by decide +kernel
theorem d_T_product_64 : decode prog_5_method_6_code 64 = .ok (.lmul, 1) := by decide +kernel
theorem d_T_product_65 : decode prog_5_method_6_code 65 = .ok (.lstore_n 3, 1) := by decide +kernel
theorem d_T_product_66 : decode prog_5_method_6_code 66 = .ok (.iinc 5 1, 3) := by decide +kernel
theorem d_T_product_69 : decode prog_5_method_6_code 69 = .ok (.goto (-48), 3) := by decide +kernel
theorem d_T_product_72 : decode prog_5_method_6_code 72 = .ok (.lload_n 3, 1) := by decide +kernel
theorem d_T_product_73 : decode prog_5_method_6_code 73 = .ok (.lreturn, 1) := by decide +kernel
theorem d_T_factor_0 : decode prog_5_method_7_code 0 = .ok (.aload_n 0, 1) := by decide +kernel
theorem d_T_factor_1 : decode prog_5_method_7_code 1 = .ok (.getfield 11, 3) := by decide +kernel
theorem d_T_factor_4 : decode prog_5_method_7_code 4 = .ok (.iload_n 2, 1) := by decide +kernel
theorem d_T_factor_5 : decode prog_5_method_7_code 5 = .ok (.aaload, 1) := by decide +kernel
theorem d_T_factor_6 : decode prog_5_method_7_code 6 = .ok (.aload_n 1, 1) := by decide +kernel
theorem d_T_factor_7 : decode prog_5_method_7_code 7 = .ok (.getfield 48, 3) := by decide +kernel
theorem d_T_factor_10 : decode prog_5_method_7_code 10 = .ok (.iload_n 2, 1) := by decide +kernel
theorem d_T_factor_11 : decode prog_5_method_7_code 11 = .ok (.iaload, 1) := by decide +kernel
theorem d_T_factor_12 : decode prog_5_method_7_code 12 = .ok (.iload_n 3, 1) := by decide +kernel
theorem d_T_factor_13 : decode prog_5_method_7_code 13 = .ok (.invokestatic 52, 3) := by decide +kernel
theorem d_T_factor_16 : decode prog_5_method_7_code 16 = .ok (.iaload, 1) := by decide +kernel
theorem d_T_factor_17 : decode prog_5_method_7_code 17 = .ok (.istore 4, 2) := by decide +kernel
theorem d_T_factor_19 : decode prog_5_method_7_code 19 = .ok (.iload_n 3, 1) := by decide +kernel
theorem d_T_factor_20 : decode prog_5_method_7_code 20 = .ok (.iload_n 2, 1) := by decide +kernel
theorem d_T_factor_21 : decode prog_5_method_7_code 21 = .ok (.invokestatic 33, 3) := by decide +kernel
theorem d_T_factor_24 : decode prog_5_method_7_code 24 = .ok (.ifCond .eq 8, 3) := by decide +kernel
theorem d_T_factor_27 : decode prog_5_method_7_code 27 = .ok (.iload 4, 2) := by decide +kernel
theorem d_T_factor_29 : decode prog_5_method_7_code 29 = .ok (.goto 8, 3) := by decide +kernel
theorem d_T_factor_32 : decode prog_5_method_7_code 32 = .ok (.bipush 8, 2) := by decide +kernel
theorem d_T_factor_34 : decode prog_5_method_7_code 34 = .ok (.iload 4, 2) := by decide +kernel
theorem d_T_factor_36 : decode prog_5_method_7_code 36 = .ok (.isub, 1) := by decide +kernel
theorem d_T_factor_37 : decode prog_5_method_7_code 37 = .ok (.ireturn, 1) := by decide +kernel
theorem d_T_rowIn_0 : decode prog_5_method_8_code 0 = .ok (.iconst 0, 1) := by decide +kernel
theorem d_T_rowIn_1 : decode prog_5_method_8_code 1 = .ok (.istore_n 2, 1) := by decide +kernel
theorem d_T_rowIn_2 : decode prog_5_method_8_code 2 = .ok (.iconst 0, 1) := by decide +kernel
theorem d_T_rowIn_3 : decode prog_5_method_8_code 3 = .ok (.istore_n 3, 1) := by decide +kernel
theorem d_T_rowIn_4 : decode prog_5_method_8_code 4 = .ok (.iconst 0, 1) := by decide +kernel
theorem d_T_rowIn_5 : decode prog_5_method_8_code 5 = .ok (.istore 4, 2) := by decide +kernel
theorem d_T_rowIn_7 : decode prog_5_method_8_code 7 = .ok (.iload 4, 2) := by decide +kernel
theorem d_T_rowIn_9 : decode prog_5_method_8_code 9 = .ok (.bipush 8, 2) := by decide +kernel
theorem d_T_rowIn_11 : decode prog_5_method_8_code 11 = .ok (.if_icmp .ge 32, 3) := by decide +kernel
theorem d_T_rowIn_14 : decode prog_5_method_8_code 14 = .ok (.iload_n 0, 1) := by decide +kernel
theorem d_T_rowIn_15 : decode prog_5_method_8_code 15 = .ok (.iload 4, 2) := by decide +kernel
theorem d_T_rowIn_17 : decode prog_5_method_8_code 17 = .ok (.invokestatic 33, 3) := by decide +kernel
theorem d_T_rowIn_20 : decode prog_5_method_8_code 20 = .ok (.ifCond .eq 17, 3) := by decide +kernel
theorem d_T_rowIn_23 : decode prog_5_method_8_code 23 = .ok (.iload_n 2, 1) := by decide +kernel
theorem d_T_rowIn_24 : decode prog_5_method_8_code 24 = .ok (.iload_n 1, 1) := by decide +kernel
theorem d_T_rowIn_25 : decode prog_5_method_8_code 25 = .ok (.iload 4, 2) := by decide +kernel
theorem d_T_rowIn_27 : decode prog_5_method_8_code 27 = .ok (.ishr, 1) := by decide +kernel
theorem d_T_rowIn_28 : decode prog_5_method_8_code 28 = .ok (.iconst 1, 1) := by decide +kernel
theorem d_T_rowIn_29 : decode prog_5_method_8_code 29 = .ok (.iand, 1) := by decide +kernel
theorem d_T_rowIn_30 : decode prog_5_method_8_code 30 = .ok (.iload_n 3, 1) := by decide +kernel
theorem d_T_rowIn_31 : decode prog_5_method_8_code 31 = .ok (.ishl, 1) := by decide +kernel
theorem d_T_rowIn_32 : decode prog_5_method_8_code 32 = .ok (.ior, 1) := by decide +kernel
theorem d_T_rowIn_33 : decode prog_5_method_8_code 33 = .ok (.istore_n 2, 1) := by decide +kernel
theorem d_T_rowIn_34 : decode prog_5_method_8_code 34 = .ok (.iinc 3 1, 3) := by decide +kernel
theorem d_T_rowIn_37 : decode prog_5_method_8_code 37 = .ok (.iinc 4 1, 3) := by decide +kernel
theorem d_T_rowIn_40 : decode prog_5_method_8_code 40 = .ok (.goto (-33), 3) := by decide +kernel
theorem d_T_rowIn_43 : decode prog_5_method_8_code 43 = .ok (.iload_n 2, 1) := by decide +kernel
theorem d_T_rowIn_44 : decode prog_5_method_8_code 44 = .ok (.ireturn, 1) := by decide +kernel
theorem d_X_independent_0 : decode prog_1_method_13_code 0 = .ok (.aload_n 0, 1) := by decide +kernel
theorem d_X_independent_1 : decode prog_1_method_13_code 1 = .ok (.iload_n 1, 1) := by decide +kernel
theorem d_X_independent_2 : decode prog_1_method_13_code 2 = .ok (.iload_n 2, 1) := by decide +kernel
theorem d_X_independent_3 : decode prog_1_method_13_code 3 = .ok (.iload_n 3, 1) := by decide +kernel
theorem d_X_independent_4 : decode prog_1_method_13_code 4 = .ok (.invokevirtual 139, 3) := by decide +kernel
theorem d_X_independent_7 : decode prog_1_method_13_code 7 = .ok (.ifCond .ne 6, 3) := by decide +kernel
theorem d_X_independent_10 : decode prog_1_method_13_code 10 = .ok (.bipush (-2), 2) := by decide +kernel
theorem d_X_independent_12 : decode prog_1_method_13_code 12 = .ok (.ireturn, 1) := by decide +kernel
theorem d_X_independent_13 : decode prog_1_method_13_code 13 = .ok (.aload_n 0, 1) := by decide +kernel
theorem d_X_independent_14 : decode prog_1_method_13_code 14 = .ok (.iload_n 1, 1) := by decide +kernel
theorem d_X_independent_15 : decode prog_1_method_13_code 15 = .ok (.iload_n 2, 1) := by decide +kernel
theorem d_X_independent_16 : decode prog_1_method_13_code 16 = .ok (.iload_n 3, 1) := by decide +kernel
theorem d_X_independent_17 : decode prog_1_method_13_code 17 = .ok (.invokevirtual 164, 3) := by decide +kernel
theorem d_X_independent_20 : decode prog_1_method_13_code 20 = .ok (.iconst (-1), 1) := by decide +kernel
theorem d_X_independent_21 : decode prog_1_method_13_code 21 = .ok (.if_icmp .ne 7, 3) := by decide +kernel
theorem d_X_independent_24 : decode prog_1_method_13_code 24 = .ok (.iconst 1, 1) := by decide +kernel
theorem d_X_independent_25 : decode prog_1_method_13_code 25 = .ok (.goto 4, 3) := by decide +kernel
theorem d_X_independent_28 : decode prog_1_method_13_code 28 = .ok (.iconst 0, 1) := by decide +kernel
theorem d_X_independent_29 : decode prog_1_method_13_code 29 = .ok (.invokestatic 147, 3) := by decide +kernel
theorem d_X_independent_32 : decode prog_1_method_13_code 32 = .ok (.ireturn, 1) := by decide +kernel
theorem d_X_leastDifference_0 : decode prog_1_method_28_code 0 = .ok (.iload_n 3, 1) := by decide +kernel
theorem d_X_leastDifference_1 : decode prog_1_method_28_code 1 = .ok (.iload_n 1, 1) := by decide +kernel
theorem d_X_leastDifference_2 : decode prog_1_method_28_code 2 = .ok (.invokestatic 89, 3) := by decide +kernel
theorem d_X_leastDifference_5 : decode prog_1_method_28_code 5 = .ok (.ior, 1) := by decide +kernel
theorem d_X_leastDifference_6 : decode prog_1_method_28_code 6 = .ok (.iload_n 2, 1) := by decide +kernel
theorem d_X_leastDifference_7 : decode prog_1_method_28_code 7 = .ok (.invokestatic 89, 3) := by decide +kernel
theorem d_X_leastDifference_10 : decode prog_1_method_28_code 10 = .ok (.ior, 1) := by decide +kernel
theorem d_X_leastDifference_11 : decode prog_1_method_28_code 11 = .ok (.istore 4, 2) := by decide +kernel
theorem d_X_leastDifference_13 : decode prog_1_method_28_code 13 = .ok (.aload_n 0, 1) := by decide +kernel
theorem d_X_leastDifference_14 : decode prog_1_method_28_code 14 = .ok (.getfield 47, 3) := by decide +kernel
theorem d_X_leastDifference_17 : decode prog_1_method_28_code 17 = .ok (.iload 4, 2) := by decide +kernel
theorem d_X_leastDifference_19 : decode prog_1_method_28_code 19 = .ok (.invokevirtual 195, 3) := by decide +kernel
theorem d_X_leastDifference_22 : decode prog_1_method_28_code 22 = .ok (.aload_n 0, 1) := by decide +kernel
theorem d_X_leastDifference_23 : decode prog_1_method_28_code 23 = .ok (.getfield 51, 3) := by decide +kernel
theorem d_X_leastDifference_26 : decode prog_1_method_28_code 26 = .ok (.iload_n 3, 1) := by decide +kernel
theorem d_X_leastDifference_27 : decode prog_1_method_28_code 27 = .ok (.invokevirtual 195, 3) := by decide +kernel
theorem d_X_leastDifference_30 : decode prog_1_method_28_code 30 = .ok (.aload_n 0, 1) := by decide +kernel
theorem d_X_leastDifference_31 : decode prog_1_method_28_code 31 = .ok (.getfield 54, 3) := by decide +kernel
theorem d_X_leastDifference_34 : decode prog_1_method_28_code 34 = .ok (.iload_n 3, 1) := by decide +kernel
theorem d_X_leastDifference_35 : decode prog_1_method_28_code 35 = .ok (.iload_n 1, 1) := by decide +kernel
theorem d_X_leastDifference_36 : decode prog_1_method_28_code 36 = .ok (.invokestatic 89, 3) := by decide +kernel
theorem d_X_leastDifference_39 : decode prog_1_method_28_code 39 = .ok (.ior, 1) := by decide +kernel
theorem d_X_leastDifference_40 : decode prog_1_method_28_code 40 = .ok (.invokevirtual 195, 3) := by decide +kernel
theorem d_X_leastDifference_43 : decode prog_1_method_28_code 43 = .ok (.aload_n 0, 1) := by decide +kernel
theorem d_X_leastDifference_44 : decode prog_1_method_28_code 44 = .ok (.getfield 57, 3) := by decide +kernel
theorem d_X_leastDifference_47 : decode prog_1_method_28_code 47 = .ok (.iload_n 3, 1) := by decide +kernel
theorem d_X_leastDifference_48 : decode prog_1_method_28_code 48 = .ok (.iload_n 2, 1) := by decide +kernel
theorem d_X_leastDifference_49 : decode prog_1_method_28_code 49 = .ok (.invokestatic 89, 3) := by decide +kernel
theorem d_X_leastDifference_52 : decode prog_1_method_28_code 52 = .ok (.ior, 1) := by decide +kernel
theorem d_X_leastDifference_53 : decode prog_1_method_28_code 53 = .ok (.invokevirtual 195, 3) := by decide +kernel
theorem d_X_leastDifference_56 : decode prog_1_method_28_code 56 = .ok (.aload_n 0, 1) := by decide +kernel
theorem d_X_leastDifference_57 : decode prog_1_method_28_code 57 = .ok (.getfield 12, 3) := by decide +kernel
theorem d_X_leastDifference_60 : decode prog_1_method_28_code 60 = .ok (.invokevirtual 156, 3) := by decide +kernel
theorem d_X_leastDifference_63 : decode prog_1_method_28_code 63 = .ok (.istore 5, 2) := by decide +kernel
theorem d_X_leastDifference_65 : decode prog_1_method_28_code 65 = .ok (.iconst 0, 1) := by decide +kernel
theorem d_X_leastDifference_66 : decode prog_1_method_28_code 66 = .ok (.istore 6, 2) := by decide +kernel
theorem d_X_leastDifference_68 : decode prog_1_method_28_code 68 = .ok (.iload 6, 2) := by decide +kernel
theorem d_X_leastDifference_70 : decode prog_1_method_28_code 70 = .ok (.iload 5, 2) := by decide +kernel
theorem d_X_leastDifference_72 : decode prog_1_method_28_code 72 = .ok (.if_icmp .gt 68, 3) := by decide +kernel
theorem d_X_leastDifference_75 : decode prog_1_method_28_code 75 = .ok (.aload_n 0, 1) := by decide +kernel
theorem d_X_leastDifference_76 : decode prog_1_method_28_code 76 = .ok (.getfield 26, 3) := by decide +kernel
theorem d_X_leastDifference_79 : decode prog_1_method_28_code 79 = .ok (.aload_n 0, 1) := by decide +kernel
theorem d_X_leastDifference_80 : decode prog_1_method_28_code 80 = .ok (.getfield 12, 3) := by decide +kernel
theorem d_X_leastDifference_83 : decode prog_1_method_28_code 83 = .ok (.iload 6, 2) := by decide +kernel
theorem d_X_leastDifference_85 : decode prog_1_method_28_code 85 = .ok (.invokevirtual 160, 3) := by decide +kernel
theorem d_X_leastDifference_88 : decode prog_1_method_28_code 88 = .ok (.lstore 7, 2) := by decide +kernel
theorem d_X_leastDifference_90 : decode prog_1_method_28_code 90 = .ok (.aload_n 0, 1) := by decide +kernel
theorem d_X_leastDifference_91 : decode prog_1_method_28_code 91 = .ok (.getfield 47, 3) := by decide +kernel
theorem d_X_leastDifference_94 : decode prog_1_method_28_code 94 = .ok (.iload 6, 2) := by decide +kernel
theorem d_X_leastDifference_96 : decode prog_1_method_28_code 96 = .ok (.lload 7, 2) := by decide +kernel
theorem d_X_leastDifference_98 : decode prog_1_method_28_code 98 = .ok (.invokevirtual 198, 3) := by decide +kernel
theorem d_X_leastDifference_101 : decode prog_1_method_28_code 101 = .ok (.aload_n 0, 1) := by decide +kernel
theorem d_X_leastDifference_102 : decode prog_1_method_28_code 102 = .ok (.getfield 51, 3) := by decide +kernel
theorem d_X_leastDifference_105 : decode prog_1_method_28_code 105 = .ok (.iload 6, 2) := by decide +kernel
theorem d_X_leastDifference_107 : decode prog_1_method_28_code 107 = .ok (.lload 7, 2) := by decide +kernel
theorem d_X_leastDifference_109 : decode prog_1_method_28_code 109 = .ok (.invokevirtual 198, 3) := by decide +kernel
theorem d_X_leastDifference_112 : decode prog_1_method_28_code 112 = .ok (.aload_n 0, 1) := by decide +kernel
theorem d_X_leastDifference_113 : decode prog_1_method_28_code 113 = .ok (.getfield 54, 3) := by decide +kernel
theorem d_X_leastDifference_116 : decode prog_1_method_28_code 116 = .ok (.iload 6, 2) := by decide +kernel
theorem d_X_leastDifference_118 : decode prog_1_method_28_code 118 = .ok (.lload 7, 2) := by decide +kernel
theorem d_X_leastDifference_120 : decode prog_1_method_28_code 120 = .ok (.invokevirtual 198, 3) := by decide +kernel
theorem d_X_leastDifference_123 : decode prog_1_method_28_code 123 = .ok (.aload_n 0, 1) := by decide +kernel
theorem d_X_leastDifference_124 : decode prog_1_method_28_code 124 = .ok (.getfield 57, 3) := by decide +kernel
theorem d_X_leastDifference_127 : decode prog_1_method_28_code 127 = .ok (.iload 6, 2) := by decide +kernel
theorem d_X_leastDifference_129 : decode prog_1_method_28_code 129 = .ok (.lload 7, 2) := by decide +kernel
theorem d_X_leastDifference_131 : decode prog_1_method_28_code 131 = .ok (.invokevirtual 198, 3) := by decide +kernel
theorem d_X_leastDifference_134 : decode prog_1_method_28_code 134 = .ok (.iinc 6 1, 3) := by decide +kernel
theorem d_X_leastDifference_137 : decode prog_1_method_28_code 137 = .ok (.goto (-69), 3) := by decide +kernel
theorem d_X_leastDifference_140 : decode prog_1_method_28_code 140 = .ok (.iconst 0, 1) := by decide +kernel
theorem d_X_leastDifference_141 : decode prog_1_method_28_code 141 = .ok (.istore 6, 2) := by decide +kernel
theorem d_X_leastDifference_143 : decode prog_1_method_28_code 143 = .ok (.iload 6, 2) := by decide +kernel
theorem d_X_leastDifference_145 : decode prog_1_method_28_code 145 = .ok (.iload 4, 2) := by decide +kernel
theorem d_X_leastDifference_147 : decode prog_1_method_28_code 147 = .ok (.if_icmp .gt 64, 3) := by decide +kernel
theorem d_X_leastDifference_150 : decode prog_1_method_28_code 150 = .ok (.iload 6, 2) := by decide +kernel
theorem d_X_leastDifference_152 : decode prog_1_method_28_code 152 = .ok (.iload 4, 2) := by decide +kernel
theorem d_X_leastDifference_154 : decode prog_1_method_28_code 154 = .ok (.iconst (-1), 1) := by decide +kernel
theorem d_X_leastDifference_155 : decode prog_1_method_28_code 155 = .ok (.ixor, 1) := by decide +kernel
theorem d_X_leastDifference_156 : decode prog_1_method_28_code 156 = .ok (.iand, 1) := by decide +kernel
theorem d_X_leastDifference_157 : decode prog_1_method_28_code 157 = .ok (.ifCond .ne 48, 3) := by decide +kernel
theorem d_X_leastDifference_160 : decode prog_1_method_28_code 160 = .ok (.aload_n 0, 1) := by decide +kernel
theorem d_X_leastDifference_161 : decode prog_1_method_28_code 161 = .ok (.getfield 47, 3) := by decide +kernel
theorem d_X_leastDifference_164 : decode prog_1_method_28_code 164 = .ok (.iload 6, 2) := by decide +kernel
theorem d_X_leastDifference_166 : decode prog_1_method_28_code 166 = .ok (.invokevirtual 202, 3) := by decide +kernel
theorem d_X_leastDifference_169 : decode prog_1_method_28_code 169 = .ok (.aload_n 0, 1) := by decide +kernel
theorem d_X_leastDifference_170 : decode prog_1_method_28_code 170 = .ok (.getfield 51, 3) := by decide +kernel
theorem d_X_leastDifference_173 : decode prog_1_method_28_code 173 = .ok (.iload 6, 2) := by decide +kernel
theorem d_X_leastDifference_175 : decode prog_1_method_28_code 175 = .ok (.invokevirtual 202, 3) := by decide +kernel
theorem d_X_leastDifference_178 : decode prog_1_method_28_code 178 = .ok (.lmul, 1) := by decide +kernel
theorem d_X_leastDifference_179 : decode prog_1_method_28_code 179 = .ok (.aload_n 0, 1) := by decide +kernel
theorem d_X_leastDifference_180 : decode prog_1_method_28_code 180 = .ok (.getfield 54, 3) := by decide +kernel
theorem d_X_leastDifference_183 : decode prog_1_method_28_code 183 = .ok (.iload 6, 2) := by decide +kernel
theorem d_X_leastDifference_185 : decode prog_1_method_28_code 185 = .ok (.invokevirtual 202, 3) := by decide +kernel
theorem d_X_leastDifference_188 : decode prog_1_method_28_code 188 = .ok (.aload_n 0, 1) := by decide +kernel
theorem d_X_leastDifference_189 : decode prog_1_method_28_code 189 = .ok (.getfield 57, 3) := by decide +kernel
theorem d_X_leastDifference_192 : decode prog_1_method_28_code 192 = .ok (.iload 6, 2) := by decide +kernel
theorem d_X_leastDifference_194 : decode prog_1_method_28_code 194 = .ok (.invokevirtual 202, 3) := by decide +kernel
theorem d_X_leastDifference_197 : decode prog_1_method_28_code 197 = .ok (.lmul, 1) := by decide +kernel
theorem d_X_leastDifference_198 : decode prog_1_method_28_code 198 = .ok (.lcmp, 1) := by decide +kernel
theorem d_X_leastDifference_199 : decode prog_1_method_28_code 199 = .ok (.ifCond .eq 6, 3) := by decide +kernel
theorem d_X_leastDifference_202 : decode prog_1_method_28_code 202 = .ok (.iload 6, 2) := by decide +kernel
theorem d_X_leastDifference_204 : decode prog_1_method_28_code 204 = .ok (.ireturn, 1) := by decide +kernel
theorem d_X_leastDifference_205 : decode prog_1_method_28_code 205 = .ok (.iinc 6 1, 3) := by decide +kernel
theorem d_X_leastDifference_208 : decode prog_1_method_28_code 208 = .ok (.goto (-65), 3) := by decide +kernel
theorem d_X_leastDifference_211 : decode prog_1_method_28_code 211 = .ok (.iconst (-1), 1) := by decide +kernel
theorem d_X_leastDifference_212 : decode prog_1_method_28_code 212 = .ok (.ireturn, 1) := by decide +kernel
theorem d_N_start_0 : decode prog_4_method_2_code 0 = .ok (.aload_n 0, 1) := by decide +kernel
theorem d_N_start_1 : decode prog_4_method_2_code 1 = .ok (.iload_n 1, 1) := by decide +kernel
theorem d_N_start_2 : decode prog_4_method_2_code 2 = .ok (.putfield 9, 3) := by decide +kernel
theorem d_N_start_5 : decode prog_4_method_2_code 5 = .ok (.aload_n 0, 1) := by decide +kernel
theorem d_N_start_6 : decode prog_4_method_2_code 6 = .ok (.getfield 15, 3) := by decide +kernel
theorem d_N_start_9 : decode prog_4_method_2_code 9 = .ok (.lconst 0, 1) := by decide +kernel
theorem d_N_start_10 : decode prog_4_method_2_code 10 = .ok (.invokestatic 19, 3) := by decide +kernel
theorem d_N_start_13 : decode prog_4_method_2_code 13 = .ok (.return_, 1) := by decide +kernel
theorem d_A_fillJ_0 : decode prog_11_method_101_code 0 = .ok (.iconst 0, 1) := by decide +kernel
theorem d_A_fillJ_1 : decode prog_11_method_101_code 1 = .ok (.istore_n 3, 1) := by decide +kernel
theorem d_A_fillJ_2 : decode prog_11_method_101_code 2 = .ok (.aload_n 0, 1) := by decide +kernel
theorem d_A_fillJ_3 : decode prog_11_method_101_code 3 = .ok (.arraylength, 1) := by decide +kernel
theorem d_A_fillJ_4 : decode prog_11_method_101_code 4 = .ok (.istore 4, 2) := by decide +kernel
theorem d_A_fillJ_6 : decode prog_11_method_101_code 6 = .ok (.iload_n 3, 1) := by decide +kernel
theorem d_A_fillJ_7 : decode prog_11_method_101_code 7 = .ok (.iload 4, 2) := by decide +kernel
theorem d_A_fillJ_9 : decode prog_11_method_101_code 9 = .ok (.if_icmp .ge 13, 3) := by decide +kernel
theorem d_A_fillJ_12 : decode prog_11_method_101_code 12 = .ok (.aload_n 0, 1) := by decide +kernel
theorem d_A_fillJ_13 : decode prog_11_method_101_code 13 = .ok (.iload_n 3, 1) := by decide +kernel
theorem d_A_fillJ_14 : decode prog_11_method_101_code 14 = .ok (.lload_n 1, 1) := by decide +kernel
theorem d_A_fillJ_15 : decode prog_11_method_101_code 15 = .ok (.lastore, 1) := by decide +kernel
theorem d_A_fillJ_16 : decode prog_11_method_101_code 16 = .ok (.iinc 3 1, 3) := by decide +kernel
theorem d_A_fillJ_19 : decode prog_11_method_101_code 19 = .ok (.goto (-13), 3) := by decide +kernel
theorem d_A_fillJ_22 : decode prog_11_method_101_code 22 = .ok (.return_, 1) := by decide +kernel
theorem d_N_add_0 : decode prog_4_method_3_code 0 = .ok (.aload_n 0, 1) := by decide +kernel
theorem d_N_add_1 : decode prog_4_method_3_code 1 = .ok (.getfield 15, 3) := by decide +kernel
theorem d_N_add_4 : decode prog_4_method_3_code 4 = .ok (.iload_n 1, 1) := by decide +kernel
theorem d_N_add_5 : decode prog_4_method_3_code 5 = .ok (.aload_n 0, 1) := by decide +kernel
theorem d_N_add_6 : decode prog_4_method_3_code 6 = .ok (.getfield 9, 3) := by decide +kernel
theorem d_N_add_9 : decode prog_4_method_3_code 9 = .ok (.iand, 1) := by decide +kernel
theorem d_N_add_10 : decode prog_4_method_3_code 10 = .ok (.dup2, 1) := by decide +kernel
theorem d_N_add_11 : decode prog_4_method_3_code 11 = .ok (.laload, 1) := by decide +kernel
theorem d_N_add_12 : decode prog_4_method_3_code 12 = .ok (.lload_n 2, 1) := by decide +kernel
theorem d_N_add_13 : decode prog_4_method_3_code 13 = .ok (.ladd, 1) := by decide +kernel
theorem d_N_add_14 : decode prog_4_method_3_code 14 = .ok (.lastore, 1) := by decide +kernel
theorem d_N_add_15 : decode prog_4_method_3_code 15 = .ok (.return_, 1) := by decide +kernel
theorem d_N_sum_0 : decode prog_4_method_4_code 0 = .ok (.aload_n 0, 1) := by decide +kernel
theorem d_N_sum_1 : decode prog_4_method_4_code 1 = .ok (.getfield 15, 3) := by decide +kernel
theorem d_N_sum_4 : decode prog_4_method_4_code 4 = .ok (.iload_n 1, 1) := by decide +kernel
theorem d_N_sum_5 : decode prog_4_method_4_code 5 = .ok (.aload_n 0, 1) := by decide +kernel
theorem d_N_sum_6 : decode prog_4_method_4_code 6 = .ok (.getfield 9, 3) := by decide +kernel
theorem d_N_sum_9 : decode prog_4_method_4_code 9 = .ok (.iand, 1) := by decide +kernel
theorem d_N_sum_10 : decode prog_4_method_4_code 10 = .ok (.laload, 1) := by decide +kernel
theorem d_N_sum_11 : decode prog_4_method_4_code 11 = .ok (.lreturn, 1) := by decide +kernel
theorem d_X_differ_0 : decode prog_1_method_14_code 0 = .ok (.aload_n 0, 1) := by decide +kernel
theorem d_X_differ_1 : decode prog_1_method_14_code 1 = .ok (.iload_n 1, 1) := by decide +kernel
theorem d_X_differ_2 : decode prog_1_method_14_code 2 = .ok (.iload_n 2, 1) := by decide +kernel
theorem d_X_differ_3 : decode prog_1_method_14_code 3 = .ok (.iload_n 3, 1) := by decide +kernel
theorem d_X_differ_4 : decode prog_1_method_14_code 4 = .ok (.invokevirtual 139, 3) := by decide +kernel
theorem d_X_differ_7 : decode prog_1_method_14_code 7 = .ok (.ifCond .eq 13, 3) := by decide +kernel
theorem d_X_differ_10 : decode prog_1_method_14_code 10 = .ok (.aload_n 0, 1) := by decide +kernel
theorem d_X_differ_11 : decode prog_1_method_14_code 11 = .ok (.iload_n 1, 1) := by decide +kernel
theorem d_X_differ_12 : decode prog_1_method_14_code 12 = .ok (.iload_n 2, 1) := by decide +kernel
theorem d_X_differ_13 : decode prog_1_method_14_code 13 = .ok (.iload_n 3, 1) := by decide +kernel
theorem d_X_differ_14 : decode prog_1_method_14_code 14 = .ok (.invokevirtual 164, 3) := by decide +kernel
theorem d_X_differ_17 : decode prog_1_method_14_code 17 = .ok (.goto 5, 3) := by decide +kernel
theorem d_X_differ_20 : decode prog_1_method_14_code 20 = .ok (.bipush (-2), 2) := by decide +kernel
theorem d_X_differ_22 : decode prog_1_method_14_code 22 = .ok (.ireturn, 1) := by decide +kernel
theorem d_X_blanket_0 : decode prog_1_method_15_code 0 = .ok (.aload_n 0, 1) := by decide +kernel
theorem d_X_blanket_1 : decode prog_1_method_15_code 1 = .ok (.iload_n 1, 1) := by decide +kernel
theorem d_X_blanket_2 : decode prog_1_method_15_code 2 = .ok (.invokevirtual 113, 3) := by decide +kernel
theorem d_X_blanket_5 : decode prog_1_method_15_code 5 = .ok (.ifCond .ne 6, 3) := by decide +kernel
theorem d_X_blanket_8 : decode prog_1_method_15_code 8 = .ok (.bipush (-2), 2) := by decide +kernel
theorem d_X_blanket_10 : decode prog_1_method_15_code 10 = .ok (.ireturn, 1) := by decide +kernel
theorem d_X_blanket_11 : decode prog_1_method_15_code 11 = .ok (.aload_n 0, 1) := by decide +kernel
theorem d_X_blanket_12 : decode prog_1_method_15_code 12 = .ok (.iload_n 1, 1) := by decide +kernel
theorem d_X_blanket_13 : decode prog_1_method_15_code 13 = .ok (.iload_n 1, 1) := by decide +kernel
theorem d_X_blanket_14 : decode prog_1_method_15_code 14 = .ok (.invokestatic 89, 3) := by decide +kernel
theorem d_X_blanket_17 : decode prog_1_method_15_code 17 = .ok (.aload_n 0, 1) := by decide +kernel
theorem d_X_blanket_18 : decode prog_1_method_15_code 18 = .ok (.getfield 12, 3) := by decide +kernel
theorem d_X_blanket_21 : decode prog_1_method_15_code 21 = .ok (.invokevirtual 156, 3) := by decide +kernel
theorem d_X_blanket_24 : decode prog_1_method_15_code 24 = .ok (.iload_n 1, 1) := by decide +kernel
theorem d_X_blanket_25 : decode prog_1_method_15_code 25 = .ok (.invokestatic 89, 3) := by decide +kernel
theorem d_X_blanket_28 : decode prog_1_method_15_code 28 = .ok (.iconst (-1), 1) := by decide +kernel
theorem d_X_blanket_29 : decode prog_1_method_15_code 29 = .ok (.ixor, 1) := by decide +kernel
theorem d_X_blanket_30 : decode prog_1_method_15_code 30 = .ok (.iand, 1) := by decide +kernel
theorem d_X_blanket_31 : decode prog_1_method_15_code 31 = .ok (.invokevirtual 167, 3) := by decide +kernel
theorem d_X_blanket_34 : decode prog_1_method_15_code 34 = .ok (.ireturn, 1) := by decide +kernel
theorem d_X_fewest_0 : decode prog_1_method_29_code 0 = .ok (.aload_n 0, 1) := by decide +kernel
theorem d_X_fewest_1 : decode prog_1_method_29_code 1 = .ok (.getfield 33, 3) := by decide +kernel
theorem d_X_fewest_4 : decode prog_1_method_29_code 4 = .ok (.aload_n 0, 1) := by decide +kernel
theorem d_X_fewest_5 : decode prog_1_method_29_code 5 = .ok (.getfield 12, 3) := by decide +kernel
theorem d_X_fewest_8 : decode prog_1_method_29_code 8 = .ok (.aload_n 0, 1) := by decide +kernel
theorem d_X_fewest_9 : decode prog_1_method_29_code 9 = .ok (.getfield 26, 3) := by decide +kernel
theorem d_X_fewest_12 : decode prog_1_method_29_code 12 = .ok (.getfield 126, 3) := by decide +kernel
theorem d_X_fewest_15 : decode prog_1_method_29_code 15 = .ok (.iconst 0, 1) := by decide +kernel
theorem d_X_fewest_16 : decode prog_1_method_29_code 16 = .ok (.invokevirtual 129, 3) := by decide +kernel
theorem d_X_fewest_19 : decode prog_1_method_29_code 19 = .ok (.iconst (-1), 1) := by decide +kernel
theorem d_X_fewest_20 : decode prog_1_method_29_code 20 = .ok (.istore 4, 2) := by decide +kernel
theorem d_X_fewest_22 : decode prog_1_method_29_code 22 = .ok (.bipush 9, 2) := by decide +kernel
theorem d_X_fewest_24 : decode prog_1_method_29_code 24 = .ok (.istore 5, 2) := by decide +kernel
theorem d_X_fewest_26 : decode prog_1_method_29_code 26 = .ok (.aload_n 0, 1) := by decide +kernel
theorem d_X_fewest_27 : decode prog_1_method_29_code 27 = .ok (.getfield 12, 3) := by decide +kernel
theorem d_X_fewest_30 : decode prog_1_method_29_code 30 = .ok (.invokevirtual 156, 3) := by decide +kernel
theorem d_X_fewest_33 : decode prog_1_method_29_code 33 = .ok (.istore 6, 2) := by decide +kernel
theorem d_X_fewest_35 : decode prog_1_method_29_code 35 = .ok (.iconst 0, 1) := by decide +kernel
theorem d_X_fewest_36 : decode prog_1_method_29_code 36 = .ok (.istore 7, 2) := by decide +kernel
theorem d_X_fewest_38 : decode prog_1_method_29_code 38 = .ok (.iload 7, 2) := by decide +kernel
theorem d_X_fewest_40 : decode prog_1_method_29_code 40 = .ok (.iload 6, 2) := by decide +kernel
theorem d_X_fewest_42 : decode prog_1_method_29_code 42 = .ok (.if_icmp .gt 57, 3) := by decide +kernel
theorem d_X_fewest_45 : decode prog_1_method_29_code 45 = .ok (.iload 7, 2) := by decide +kernel
theorem d_X_fewest_47 : decode prog_1_method_29_code 47 = .ok (.iload_n 2, 1) := by decide +kernel
theorem d_X_fewest_48 : decode prog_1_method_29_code 48 = .ok (.iand, 1) := by decide +kernel
theorem d_X_fewest_49 : decode prog_1_method_29_code 49 = .ok (.ifCond .ne 44, 3) := by decide +kernel
theorem d_X_fewest_52 : decode prog_1_method_29_code 52 = .ok (.iload 7, 2) := by decide +kernel
theorem d_X_fewest_54 : decode prog_1_method_29_code 54 = .ok (.invokestatic 190, 3) := by decide +kernel
theorem d_X_fewest_57 : decode prog_1_method_29_code 57 = .ok (.iload 5, 2) := by decide +kernel
theorem d_X_fewest_59 : decode prog_1_method_29_code 59 = .ok (.if_icmp .ge 34, 3) := by decide +kernel
theorem d_X_fewest_62 : decode prog_1_method_29_code 62 = .ok (.aload_n 0, 1) := by decide +kernel
theorem d_X_fewest_63 : decode prog_1_method_29_code 63 = .ok (.getfield 33, 3) := by decide +kernel
theorem d_X_fewest_66 : decode prog_1_method_29_code 66 = .ok (.iload_n 1, 1) := by decide +kernel
theorem d_X_fewest_67 : decode prog_1_method_29_code 67 = .ok (.iload 7, 2) := by decide +kernel
theorem d_X_fewest_69 : decode prog_1_method_29_code 69 = .ok (.invokevirtual 206, 3) := by decide +kernel
theorem d_X_fewest_72 : decode prog_1_method_29_code 72 = .ok (.iload_n 3, 1) := by decide +kernel
theorem d_X_fewest_73 : decode prog_1_method_29_code 73 = .ok (.iand, 1) := by decide +kernel
theorem d_X_fewest_74 : decode prog_1_method_29_code 74 = .ok (.iload 7, 2) := by decide +kernel
theorem d_X_fewest_76 : decode prog_1_method_29_code 76 = .ok (.iconst (-1), 1) := by decide +kernel
theorem d_X_fewest_77 : decode prog_1_method_29_code 77 = .ok (.ixor, 1) := by decide +kernel
theorem d_X_fewest_78 : decode prog_1_method_29_code 78 = .ok (.iand, 1) := by decide +kernel
theorem d_X_fewest_79 : decode prog_1_method_29_code 79 = .ok (.ifCond .ne 14, 3) := by decide +kernel
theorem d_X_fewest_82 : decode prog_1_method_29_code 82 = .ok (.iload 7, 2) := by decide +kernel
theorem d_X_fewest_84 : decode prog_1_method_29_code 84 = .ok (.istore 4, 2) := by decide +kernel
theorem d_X_fewest_86 : decode prog_1_method_29_code 86 = .ok (.iload 7, 2) := by decide +kernel
theorem d_X_fewest_88 : decode prog_1_method_29_code 88 = .ok (.invokestatic 190, 3) := by decide +kernel
theorem d_X_fewest_91 : decode prog_1_method_29_code 91 = .ok (.istore 5, 2) := by decide +kernel
theorem d_X_fewest_93 : decode prog_1_method_29_code 93 = .ok (.iinc 7 1, 3) := by decide +kernel
theorem d_X_fewest_96 : decode prog_1_method_29_code 96 = .ok (.goto (-58), 3) := by decide +kernel
theorem d_X_fewest_99 : decode prog_1_method_29_code 99 = .ok (.iload 4, 2) := by decide +kernel
theorem d_X_fewest_101 : decode prog_1_method_29_code 101 = .ok (.ireturn, 1) := by decide +kernel
theorem d_V_reached_0 : decode prog_6_method_5_code 0 = .ok (.aload_n 0, 1) := by decide +kernel
theorem d_V_reached_1 : decode prog_6_method_5_code 1 = .ok (.iload_n 1, 1) := by decide +kernel
theorem d_V_reached_2 : decode prog_6_method_5_code 2 = .ok (.iload_n 2, 1) := by decide +kernel
theorem d_V_reached_3 : decode prog_6_method_5_code 3 = .ok (.invokevirtual 53, 3) := by decide +kernel
theorem d_V_reached_6 : decode prog_6_method_5_code 6 = .ok (.iconst 1, 1) := by decide +kernel
theorem d_V_reached_7 : decode prog_6_method_5_code 7 = .ok (.istore_n 3, 1) := by decide +kernel
theorem d_V_reached_8 : decode prog_6_method_5_code 8 = .ok (.iload_n 3, 1) := by decide +kernel
theorem d_V_reached_9 : decode prog_6_method_5_code 9 = .ok (.bipush 16, 2) := by decide +kernel
theorem d_V_reached_11 : decode prog_6_method_5_code 11 = .ok (.if_icmp .gt 25, 3) := by decide +kernel
theorem d_V_reached_14 : decode prog_6_method_5_code 14 = .ok (.aload_n 0, 1) := by decide +kernel
theorem d_V_reached_15 : decode prog_6_method_5_code 15 = .ok (.getfield 25, 3) := by decide +kernel
theorem d_V_reached_18 : decode prog_6_method_5_code 18 = .ok (.aload_n 0, 1) := by decide +kernel
theorem d_V_reached_19 : decode prog_6_method_5_code 19 = .ok (.getfield 28, 3) := by decide +kernel
theorem d_V_reached_22 : decode prog_6_method_5_code 22 = .ok (.ior, 1) := by decide +kernel
theorem d_V_reached_23 : decode prog_6_method_5_code 23 = .ok (.ifCond .eq 13, 3) := by decide +kernel
theorem d_V_reached_26 : decode prog_6_method_5_code 26 = .ok (.aload_n 0, 1) := by decide +kernel
theorem d_V_reached_27 : decode prog_6_method_5_code 27 = .ok (.invokevirtual 57, 3) := by decide +kernel
theorem d_V_reached_30 : decode prog_6_method_5_code 30 = .ok (.iinc 3 1, 3) := by decide +kernel
theorem d_V_reached_33 : decode prog_6_method_5_code 33 = .ok (.goto (-25), 3) := by decide +kernel
theorem d_V_reached_36 : decode prog_6_method_5_code 36 = .ok (.aload_n 0, 1) := by decide +kernel
theorem d_V_reached_37 : decode prog_6_method_5_code 37 = .ok (.getfield 31, 3) := by decide +kernel
theorem d_V_reached_40 : decode prog_6_method_5_code 40 = .ok (.aload_n 0, 1) := by decide +kernel
theorem d_V_reached_41 : decode prog_6_method_5_code 41 = .ok (.getfield 34, 3) := by decide +kernel
theorem d_V_reached_44 : decode prog_6_method_5_code 44 = .ok (.ior, 1) := by decide +kernel
theorem d_V_reached_45 : decode prog_6_method_5_code 45 = .ok (.ireturn, 1) := by decide +kernel
theorem d_X_least_0 : decode prog_1_method_16_code 0 = .ok (.aload_n 0, 1) := by decide +kernel
theorem d_X_least_1 : decode prog_1_method_16_code 1 = .ok (.iload_n 1, 1) := by decide +kernel
theorem d_X_least_2 : decode prog_1_method_16_code 2 = .ok (.iload_n 2, 1) := by decide +kernel
theorem d_X_least_3 : decode prog_1_method_16_code 3 = .ok (.invokevirtual 74, 3) := by decide +kernel
theorem d_X_least_6 : decode prog_1_method_16_code 6 = .ok (.ifCond .ne 6, 3) := by decide +kernel
theorem d_X_least_9 : decode prog_1_method_16_code 9 = .ok (.bipush (-2), 2) := by decide +kernel
theorem d_X_least_11 : decode prog_1_method_16_code 11 = .ok (.ireturn, 1) := by decide +kernel
theorem d_X_least_12 : decode prog_1_method_16_code 12 = .ok (.aload_n 0, 1) := by decide +kernel
theorem d_X_least_13 : decode prog_1_method_16_code 13 = .ok (.iload_n 1, 1) := by decide +kernel
theorem d_X_least_14 : decode prog_1_method_16_code 14 = .ok (.iload_n 1, 1) := by decide +kernel
theorem d_X_least_15 : decode prog_1_method_16_code 15 = .ok (.invokestatic 89, 3) := by decide +kernel
theorem d_X_least_18 : decode prog_1_method_16_code 18 = .ok (.iload_n 2, 1) := by decide +kernel
theorem d_X_least_19 : decode prog_1_method_16_code 19 = .ok (.invokestatic 89, 3) := by decide +kernel
theorem d_X_least_22 : decode prog_1_method_16_code 22 = .ok (.ior, 1) := by decide +kernel
theorem d_X_least_23 : decode prog_1_method_16_code 23 = .ok (.iload_n 2, 1) := by decide +kernel
theorem d_X_least_24 : decode prog_1_method_16_code 24 = .ok (.invokestatic 89, 3) := by decide +kernel
theorem d_X_least_27 : decode prog_1_method_16_code 27 = .ok (.invokevirtual 167, 3) := by decide +kernel
theorem d_X_least_30 : decode prog_1_method_16_code 30 = .ok (.ireturn, 1) := by decide +kernel
theorem d_X_enough_0 : decode prog_1_method_17_code 0 = .ok (.aload_n 0, 1) := by decide +kernel
theorem d_X_enough_1 : decode prog_1_method_17_code 1 = .ok (.iload_n 1, 1) := by decide +kernel
theorem d_X_enough_2 : decode prog_1_method_17_code 2 = .ok (.iload_n 2, 1) := by decide +kernel
theorem d_X_enough_3 : decode prog_1_method_17_code 3 = .ok (.iload_n 3, 1) := by decide +kernel
theorem d_X_enough_4 : decode prog_1_method_17_code 4 = .ok (.invokevirtual 139, 3) := by decide +kernel
theorem d_X_enough_7 : decode prog_1_method_17_code 7 = .ok (.ifCond .ne 6, 3) := by decide +kernel
theorem d_X_enough_10 : decode prog_1_method_17_code 10 = .ok (.bipush (-2), 2) := by decide +kernel
theorem d_X_enough_12 : decode prog_1_method_17_code 12 = .ok (.ireturn, 1) := by decide +kernel
theorem d_X_enough_13 : decode prog_1_method_17_code 13 = .ok (.aload_n 0, 1) := by decide +kernel
theorem d_X_enough_14 : decode prog_1_method_17_code 14 = .ok (.getfield 33, 3) := by decide +kernel
theorem d_X_enough_17 : decode prog_1_method_17_code 17 = .ok (.aload_n 0, 1) := by decide +kernel
theorem d_X_enough_18 : decode prog_1_method_17_code 18 = .ok (.getfield 12, 3) := by decide +kernel
theorem d_X_enough_21 : decode prog_1_method_17_code 21 = .ok (.aload_n 0, 1) := by decide +kernel
theorem d_X_enough_22 : decode prog_1_method_17_code 22 = .ok (.getfield 26, 3) := by decide +kernel
theorem d_X_enough_25 : decode prog_1_method_17_code 25 = .ok (.getfield 126, 3) := by decide +kernel
theorem d_X_enough_28 : decode prog_1_method_17_code 28 = .ok (.iconst 0, 1) := by decide +kernel
theorem d_X_enough_29 : decode prog_1_method_17_code 29 = .ok (.invokevirtual 129, 3) := by decide +kernel
theorem d_X_enough_32 : decode prog_1_method_17_code 32 = .ok (.aload_n 0, 1) := by decide +kernel
theorem d_X_enough_33 : decode prog_1_method_17_code 33 = .ok (.getfield 33, 3) := by decide +kernel
theorem d_X_enough_36 : decode prog_1_method_17_code 36 = .ok (.iload_n 1, 1) := by decide +kernel
theorem d_X_enough_37 : decode prog_1_method_17_code 37 = .ok (.invokevirtual 133, 3) := by decide +kernel
theorem d_X_enough_40 : decode prog_1_method_17_code 40 = .ok (.iload_n 3, 1) := by decide +kernel
theorem d_X_enough_41 : decode prog_1_method_17_code 41 = .ok (.iand, 1) := by decide +kernel
theorem d_X_enough_42 : decode prog_1_method_17_code 42 = .ok (.ifCond .eq 5, 3) := by decide +kernel
theorem d_X_enough_45 : decode prog_1_method_17_code 45 = .ok (.iconst 0, 1) := by decide +kernel
theorem d_X_enough_46 : decode prog_1_method_17_code 46 = .ok (.ireturn, 1) := by decide +kernel
theorem d_X_enough_47 : decode prog_1_method_17_code 47 = .ok (.aload_n 0, 1) := by decide +kernel
theorem d_X_enough_48 : decode prog_1_method_17_code 48 = .ok (.getfield 33, 3) := by decide +kernel
theorem d_X_enough_51 : decode prog_1_method_17_code 51 = .ok (.aload_n 0, 1) := by decide +kernel
theorem d_X_enough_52 : decode prog_1_method_17_code 52 = .ok (.getfield 12, 3) := by decide +kernel
theorem d_X_enough_55 : decode prog_1_method_17_code 55 = .ok (.aload_n 0, 1) := by decide +kernel
theorem d_X_enough_56 : decode prog_1_method_17_code 56 = .ok (.getfield 26, 3) := by decide +kernel
theorem d_X_enough_59 : decode prog_1_method_17_code 59 = .ok (.getfield 126, 3) := by decide +kernel
theorem d_X_enough_62 : decode prog_1_method_17_code 62 = .ok (.iload_n 1, 1) := by decide +kernel
theorem d_X_enough_63 : decode prog_1_method_17_code 63 = .ok (.invokestatic 89, 3) := by decide +kernel
theorem d_X_enough_66 : decode prog_1_method_17_code 66 = .ok (.invokevirtual 129, 3) := by decide +kernel
theorem d_X_enough_69 : decode prog_1_method_17_code 69 = .ok (.aload_n 0, 1) := by decide +kernel
theorem d_X_enough_70 : decode prog_1_method_17_code 70 = .ok (.getfield 33, 3) := by decide +kernel
theorem d_X_enough_73 : decode prog_1_method_17_code 73 = .ok (.iload_n 1, 1) := by decide +kernel
theorem d_X_enough_74 : decode prog_1_method_17_code 74 = .ok (.iload_n 2, 1) := by decide +kernel
theorem d_X_enough_75 : decode prog_1_method_17_code 75 = .ok (.iload_n 3, 1) := by decide +kernel
theorem d_X_enough_76 : decode prog_1_method_17_code 76 = .ok (.invokevirtual 143, 3) := by decide +kernel
theorem d_X_enough_79 : decode prog_1_method_17_code 79 = .ok (.iconst (-1), 1) := by decide +kernel
theorem d_X_enough_80 : decode prog_1_method_17_code 80 = .ok (.if_icmp .ne 7, 3) := by decide +kernel
theorem d_X_enough_83 : decode prog_1_method_17_code 83 = .ok (.iconst 1, 1) := by decide +kernel
theorem d_X_enough_84 : decode prog_1_method_17_code 84 = .ok (.goto 4, 3) := by decide +kernel
theorem d_X_enough_87 : decode prog_1_method_17_code 87 = .ok (.iconst 0, 1) := by decide +kernel
theorem d_X_enough_88 : decode prog_1_method_17_code 88 = .ok (.invokestatic 147, 3) := by decide +kernel
theorem d_X_enough_91 : decode prog_1_method_17_code 91 = .ok (.ireturn, 1) := by decide +kernel
theorem d_X_keep_0 : decode prog_1_method_18_code 0 = .ok (.aload_n 0, 1) := by decide +kernel
theorem d_X_keep_1 : decode prog_1_method_18_code 1 = .ok (.getfield 16, 3) := by decide +kernel
theorem d_X_keep_4 : decode prog_1_method_18_code 4 = .ok (.aload_n 0, 1) := by decide +kernel
theorem d_X_keep_5 : decode prog_1_method_18_code 5 = .ok (.getfield 12, 3) := by decide +kernel
theorem d_X_keep_8 : decode prog_1_method_18_code 8 = .ok (.invokevirtual 170, 3) := by decide +kernel
theorem d_X_keep_11 : decode prog_1_method_18_code 11 = .ok (.aload_n 0, 1) := by decide +kernel
theorem d_X_keep_12 : decode prog_1_method_18_code 12 = .ok (.iconst 1, 1) := by decide +kernel
theorem d_X_keep_13 : decode prog_1_method_18_code 13 = .ok (.putfield 19, 3) := by decide +kernel
theorem d_X_keep_16 : decode prog_1_method_18_code 16 = .ok (.aload_n 0, 1) := by decide +kernel
theorem d_X_keep_17 : decode prog_1_method_18_code 17 = .ok (.getfield 16, 3) := by decide +kernel
theorem d_X_keep_20 : decode prog_1_method_18_code 20 = .ok (.getfield 96, 3) := by decide +kernel
theorem d_X_keep_23 : decode prog_1_method_18_code 23 = .ok (.ireturn, 1) := by decide +kernel
theorem d_G_copy_0 : decode prog_2_method_3_code 0 = .ok (.aload_n 0, 1) := by decide +kernel
theorem d_G_copy_1 : decode prog_2_method_3_code 1 = .ok (.aload_n 1, 1) := by decide +kernel
theorem d_G_copy_2 : decode prog_2_method_3_code 2 = .ok (.getfield 9, 3) := by decide +kernel
theorem d_G_copy_5 : decode prog_2_method_3_code 5 = .ok (.putfield 9, 3) := by decide +kernel
theorem d_G_copy_8 : decode prog_2_method_3_code 8 = .ok (.aload_n 0, 1) := by decide +kernel
theorem d_G_copy_9 : decode prog_2_method_3_code 9 = .ok (.aload_n 1, 1) := by decide +kernel
theorem d_G_copy_10 : decode prog_2_method_3_code 10 = .ok (.getfield 15, 3) := by decide +kernel
theorem d_G_copy_13 : decode prog_2_method_3_code 13 = .ok (.putfield 15, 3) := by decide +kernel
theorem d_G_copy_16 : decode prog_2_method_3_code 16 = .ok (.aload_n 1, 1) := by decide +kernel
theorem d_G_copy_17 : decode prog_2_method_3_code 17 = .ok (.getfield 18, 3) := by decide +kernel
theorem d_G_copy_20 : decode prog_2_method_3_code 20 = .ok (.iconst 0, 1) := by decide +kernel
theorem d_G_copy_21 : decode prog_2_method_3_code 21 = .ok (.aload_n 0, 1) := by decide +kernel
theorem d_G_copy_22 : decode prog_2_method_3_code 22 = .ok (.getfield 18, 3) := by decide +kernel
theorem d_G_copy_25 : decode prog_2_method_3_code 25 = .ok (.iconst 0, 1) := by decide +kernel
theorem d_G_copy_26 : decode prog_2_method_3_code 26 = .ok (.bipush 8, 2) := by decide +kernel
theorem d_G_copy_28 : decode prog_2_method_3_code 28 = .ok (.invokestatic 31, 3) := by decide +kernel
theorem d_G_copy_31 : decode prog_2_method_3_code 31 = .ok (.aload_n 1, 1) := by decide +kernel
theorem d_G_copy_32 : decode prog_2_method_3_code 32 = .ok (.getfield 22, 3) := by decide +kernel
theorem d_G_copy_35 : decode prog_2_method_3_code 35 = .ok (.iconst 0, 1) := by decide +kernel
theorem d_G_copy_36 : decode prog_2_method_3_code 36 = .ok (.aload_n 0, 1) := by decide +kernel
theorem d_G_copy_37 : decode prog_2_method_3_code 37 = .ok (.getfield 22, 3) := by decide +kernel
theorem d_G_copy_40 : decode prog_2_method_3_code 40 = .ok (.iconst 0, 1) := by decide +kernel
theorem d_G_copy_41 : decode prog_2_method_3_code 41 = .ok (.bipush 8, 2) := by decide +kernel
theorem d_G_copy_43 : decode prog_2_method_3_code 43 = .ok (.invokestatic 31, 3) := by decide +kernel
theorem d_G_copy_46 : decode prog_2_method_3_code 46 = .ok (.return_, 1) := by decide +kernel
theorem d_X_alike_0 : decode prog_1_method_19_code 0 = .ok (.aload_n 0, 1) := by decide +kernel
theorem d_X_alike_1 : decode prog_1_method_19_code 1 = .ok (.getfield 19, 3) := by decide +kernel
theorem d_X_alike_4 : decode prog_1_method_19_code 4 = .ok (.ifCond .eq 20, 3) := by decide +kernel
theorem d_X_alike_7 : decode prog_1_method_19_code 7 = .ok (.aload_n 0, 1) := by decide +kernel
theorem d_X_alike_8 : decode prog_1_method_19_code 8 = .ok (.getfield 16, 3) := by decide +kernel
theorem d_X_alike_11 : decode prog_1_method_19_code 11 = .ok (.getfield 60, 3) := by decide +kernel
theorem d_X_alike_14 : decode prog_1_method_19_code 14 = .ok (.aload_n 0, 1) := by decide +kernel
theorem d_X_alike_15 : decode prog_1_method_19_code 15 = .ok (.getfield 12, 3) := by decide +kernel
theorem d_X_alike_18 : decode prog_1_method_19_code 18 = .ok (.getfield 60, 3) := by decide +kernel
theorem d_X_alike_21 : decode prog_1_method_19_code 21 = .ok (.if_icmp .eq 5, 3) := by decide +kernel
theorem d_X_alike_24 : decode prog_1_method_19_code 24 = .ok (.iconst (-1), 1) := by decide +kernel
theorem d_X_alike_25 : decode prog_1_method_19_code 25 = .ok (.ireturn, 1) := by decide +kernel
theorem d_X_alike_26 : decode prog_1_method_19_code 26 = .ok (.aload_n 0, 1) := by decide +kernel
theorem d_X_alike_27 : decode prog_1_method_19_code 27 = .ok (.getfield 12, 3) := by decide +kernel
theorem d_X_alike_30 : decode prog_1_method_19_code 30 = .ok (.aload_n 0, 1) := by decide +kernel
theorem d_X_alike_31 : decode prog_1_method_19_code 31 = .ok (.getfield 16, 3) := by decide +kernel
theorem d_X_alike_34 : decode prog_1_method_19_code 34 = .ok (.invokevirtual 174, 3) := by decide +kernel
theorem d_X_alike_37 : decode prog_1_method_19_code 37 = .ok (.invokestatic 147, 3) := by decide +kernel
theorem d_X_alike_40 : decode prog_1_method_19_code 40 = .ok (.ireturn, 1) := by decide +kernel
theorem d_G_tellsTheSameAs_0 : decode prog_2_method_10_code 0 = .ok (.iconst 0, 1) := by decide +kernel
theorem d_G_tellsTheSameAs_1 : decode prog_2_method_10_code 1 = .ok (.istore_n 2, 1) := by decide +kernel
theorem d_G_tellsTheSameAs_2 : decode prog_2_method_10_code 2 = .ok (.iload_n 2, 1) := by decide +kernel
theorem d_G_tellsTheSameAs_3 : decode prog_2_method_10_code 3 = .ok (.aload_n 0, 1) := by decide +kernel
theorem d_G_tellsTheSameAs_4 : decode prog_2_method_10_code 4 = .ok (.getfield 9, 3) := by decide +kernel
theorem d_G_tellsTheSameAs_7 : decode prog_2_method_10_code 7 = .ok (.if_icmp .ge 57, 3) := by decide +kernel
theorem d_G_tellsTheSameAs_10 : decode prog_2_method_10_code 10 = .ok (.aload_n 0, 1) := by decide +kernel
theorem d_G_tellsTheSameAs_11 : decode prog_2_method_10_code 11 = .ok (.iload_n 2, 1) := by decide +kernel
theorem d_G_tellsTheSameAs_12 : decode prog_2_method_10_code 12 = .ok (.invokevirtual 50, 3) := by decide +kernel
theorem d_G_tellsTheSameAs_15 : decode prog_2_method_10_code 15 = .ok (.aload_n 1, 1) := by decide +kernel
theorem d_G_tellsTheSameAs_16 : decode prog_2_method_10_code 16 = .ok (.iload_n 2, 1) := by decide +kernel
theorem d_G_tellsTheSameAs_17 : decode prog_2_method_10_code 17 = .ok (.invokevirtual 50, 3) := by decide +kernel
theorem d_G_tellsTheSameAs_20 : decode prog_2_method_10_code 20 = .ok (.if_icmp .eq 5, 3) := by decide +kernel
theorem d_G_tellsTheSameAs_23 : decode prog_2_method_10_code 23 = .ok (.iconst 0, 1) := by decide +kernel
theorem d_G_tellsTheSameAs_24 : decode prog_2_method_10_code 24 = .ok (.ireturn, 1) := by decide +kernel
theorem d_G_tellsTheSameAs_25 : decode prog_2_method_10_code 25 = .ok (.iconst 0, 1) := by decide +kernel
theorem d_G_tellsTheSameAs_26 : decode prog_2_method_10_code 26 = .ok (.istore_n 3, 1) := by decide +kernel
theorem d_G_tellsTheSameAs_27 : decode prog_2_method_10_code 27 = .ok (.iload_n 3, 1) := by decide +kernel
theorem d_G_tellsTheSameAs_28 : decode prog_2_method_10_code 28 = .ok (.aload_n 0, 1) := by decide +kernel
theorem d_G_tellsTheSameAs_29 : decode prog_2_method_10_code 29 = .ok (.getfield 9, 3) := by decide +kernel
theorem d_G_tellsTheSameAs_32 : decode prog_2_method_10_code 32 = .ok (.if_icmp .ge 26, 3) := by decide +kernel
theorem d_G_tellsTheSameAs_35 : decode prog_2_method_10_code 35 = .ok (.aload_n 0, 1) := by decide +kernel
theorem d_G_tellsTheSameAs_36 : decode prog_2_method_10_code 36 = .ok (.iload_n 3, 1) := by decide +kernel
theorem d_G_tellsTheSameAs_37 : decode prog_2_method_10_code 37 = .ok (.iload_n 2, 1) := by decide +kernel
theorem d_G_tellsTheSameAs_38 : decode prog_2_method_10_code 38 = .ok (.invokevirtual 53, 3) := by decide +kernel
theorem d_G_tellsTheSameAs_41 : decode prog_2_method_10_code 41 = .ok (.aload_n 1, 1) := by decide +kernel
theorem d_G_tellsTheSameAs_42 : decode prog_2_method_10_code 42 = .ok (.iload_n 3, 1) := by decide +kernel
theorem d_G_tellsTheSameAs_43 : decode prog_2_method_10_code 43 = .ok (.iload_n 2, 1) := by decide +kernel
theorem d_G_tellsTheSameAs_44 : decode prog_2_method_10_code 44 = .ok (.invokevirtual 53, 3) := by decide +kernel
theorem d_G_tellsTheSameAs_47 : decode prog_2_method_10_code 47 = .ok (.if_icmp .eq 5, 3) := by decide +kernel
theorem d_G_tellsTheSameAs_50 : decode prog_2_method_10_code 50 = .ok (.iconst 0, 1) := by decide +kernel
theorem d_G_tellsTheSameAs_51 : decode prog_2_method_10_code 51 = .ok (.ireturn, 1) := by decide +kernel
theorem d_G_tellsTheSameAs_52 : decode prog_2_method_10_code 52 = .ok (.iinc 3 1, 3) := by decide +kernel
theorem d_G_tellsTheSameAs_55 : decode prog_2_method_10_code 55 = .ok (.goto (-28), 3) := by decide +kernel
theorem d_G_tellsTheSameAs_58 : decode prog_2_method_10_code 58 = .ok (.iinc 2 1, 3) := by decide +kernel
theorem d_G_tellsTheSameAs_61 : decode prog_2_method_10_code 61 = .ok (.goto (-59), 3) := by decide +kernel
theorem d_G_tellsTheSameAs_64 : decode prog_2_method_10_code 64 = .ok (.iconst 1, 1) := by decide +kernel
theorem d_G_tellsTheSameAs_65 : decode prog_2_method_10_code 65 = .ok (.ireturn, 1) := by decide +kernel
theorem d_G_strangers_0 : decode prog_2_method_9_code 0 = .ok (.aload_n 0, 1) := by decide +kernel
theorem d_G_strangers_1 : decode prog_2_method_9_code 1 = .ok (.getfield 18, 3) := by decide +kernel
theorem d_G_strangers_4 : decode prog_2_method_9_code 4 = .ok (.iload_n 2, 1) := by decide +kernel
theorem d_G_strangers_5 : decode prog_2_method_9_code 5 = .ok (.iaload, 1) := by decide +kernel
theorem d_G_strangers_6 : decode prog_2_method_9_code 6 = .ok (.iload_n 1, 1) := by decide +kernel
theorem d_G_strangers_7 : decode prog_2_method_9_code 7 = .ok (.invokestatic 46, 3) := by decide +kernel
theorem d_G_strangers_10 : decode prog_2_method_9_code 10 = .ok (.ifCond .ne 5, 3) := by decide +kernel
theorem d_G_strangers_13 : decode prog_2_method_9_code 13 = .ok (.iconst 0, 1) := by decide +kernel
theorem d_G_strangers_14 : decode prog_2_method_9_code 14 = .ok (.ireturn, 1) := by decide +kernel
theorem d_G_strangers_15 : decode prog_2_method_9_code 15 = .ok (.aload_n 0, 1) := by decide +kernel
theorem d_G_strangers_16 : decode prog_2_method_9_code 16 = .ok (.getfield 18, 3) := by decide +kernel
theorem d_G_strangers_19 : decode prog_2_method_9_code 19 = .ok (.iload_n 2, 1) := by decide +kernel
theorem d_G_strangers_20 : decode prog_2_method_9_code 20 = .ok (.iaload, 1) := by decide +kernel
theorem d_G_strangers_21 : decode prog_2_method_9_code 21 = .ok (.iload_n 1, 1) := by decide +kernel
theorem d_G_strangers_22 : decode prog_2_method_9_code 22 = .ok (.invokestatic 37, 3) := by decide +kernel
theorem d_G_strangers_25 : decode prog_2_method_9_code 25 = .ok (.iconst (-1), 1) := by decide +kernel
theorem d_G_strangers_26 : decode prog_2_method_9_code 26 = .ok (.ixor, 1) := by decide +kernel
theorem d_G_strangers_27 : decode prog_2_method_9_code 27 = .ok (.iand, 1) := by decide +kernel
theorem d_G_strangers_28 : decode prog_2_method_9_code 28 = .ok (.aload_n 0, 1) := by decide +kernel
theorem d_G_strangers_29 : decode prog_2_method_9_code 29 = .ok (.iload_n 1, 1) := by decide +kernel
theorem d_G_strangers_30 : decode prog_2_method_9_code 30 = .ok (.invokevirtual 50, 3) := by decide +kernel
theorem d_G_strangers_33 : decode prog_2_method_9_code 33 = .ok (.iconst (-1), 1) := by decide +kernel
theorem d_G_strangers_34 : decode prog_2_method_9_code 34 = .ok (.ixor, 1) := by decide +kernel
theorem d_G_strangers_35 : decode prog_2_method_9_code 35 = .ok (.iand, 1) := by decide +kernel
theorem d_G_strangers_36 : decode prog_2_method_9_code 36 = .ok (.ireturn, 1) := by decide +kernel
theorem d_X_settled_0 : decode prog_1_method_20_code 0 = .ok (.aload_n 0, 1) := by decide +kernel
theorem d_X_settled_1 : decode prog_1_method_20_code 1 = .ok (.iload_n 1, 1) := by decide +kernel
theorem d_X_settled_2 : decode prog_1_method_20_code 2 = .ok (.iload_n 2, 1) := by decide +kernel
theorem d_X_settled_3 : decode prog_1_method_20_code 3 = .ok (.invokevirtual 74, 3) := by decide +kernel
theorem d_X_settled_6 : decode prog_1_method_20_code 6 = .ok (.ifCond .ne 6, 3) := by decide +kernel
theorem d_X_settled_9 : decode prog_1_method_20_code 9 = .ok (.bipush (-2), 2) := by decide +kernel
theorem d_X_settled_11 : decode prog_1_method_20_code 11 = .ok (.ireturn, 1) := by decide +kernel
theorem d_X_settled_12 : decode prog_1_method_20_code 12 = .ok (.aload_n 0, 1) := by decide +kernel
theorem d_X_settled_13 : decode prog_1_method_20_code 13 = .ok (.getfield 12, 3) := by decide +kernel
theorem d_X_settled_16 : decode prog_1_method_20_code 16 = .ok (.getfield 85, 3) := by decide +kernel
theorem d_X_settled_19 : decode prog_1_method_20_code 19 = .ok (.iload_n 1, 1) := by decide +kernel
theorem d_X_settled_20 : decode prog_1_method_20_code 20 = .ok (.iaload, 1) := by decide +kernel
theorem d_X_settled_21 : decode prog_1_method_20_code 21 = .ok (.iload_n 2, 1) := by decide +kernel
theorem d_X_settled_22 : decode prog_1_method_20_code 22 = .ok (.invokestatic 82, 3) := by decide +kernel
theorem d_X_settled_25 : decode prog_1_method_20_code 25 = .ok (.ifCond .ne 5, 3) := by decide +kernel
theorem d_X_settled_28 : decode prog_1_method_20_code 28 = .ok (.iconst (-1), 1) := by decide +kernel
theorem d_X_settled_29 : decode prog_1_method_20_code 29 = .ok (.ireturn, 1) := by decide +kernel
theorem d_X_settled_30 : decode prog_1_method_20_code 30 = .ok (.aload_n 0, 1) := by decide +kernel
theorem d_X_settled_31 : decode prog_1_method_20_code 31 = .ok (.getfield 40, 3) := by decide +kernel
theorem d_X_settled_34 : decode prog_1_method_20_code 34 = .ok (.aload_n 0, 1) := by decide +kernel
theorem d_X_settled_35 : decode prog_1_method_20_code 35 = .ok (.getfield 12, 3) := by decide +kernel
theorem d_X_settled_38 : decode prog_1_method_20_code 38 = .ok (.invokevirtual 178, 3) := by decide +kernel
theorem d_X_settled_41 : decode prog_1_method_20_code 41 = .ok (.aload_n 0, 1) := by decide +kernel
theorem d_X_settled_42 : decode prog_1_method_20_code 42 = .ok (.getfield 40, 3) := by decide +kernel
theorem d_X_settled_45 : decode prog_1_method_20_code 45 = .ok (.iload_n 1, 1) := by decide +kernel
theorem d_X_settled_46 : decode prog_1_method_20_code 46 = .ok (.iload_n 2, 1) := by decide +kernel
theorem d_X_settled_47 : decode prog_1_method_20_code 47 = .ok (.invokevirtual 181, 3) := by decide +kernel
theorem d_X_settled_50 : decode prog_1_method_20_code 50 = .ok (.ifCond .ne 7, 3) := by decide +kernel
theorem d_X_settled_53 : decode prog_1_method_20_code 53 = .ok (.iconst 1, 1) := by decide +kernel
theorem d_X_settled_54 : decode prog_1_method_20_code 54 = .ok (.goto 4, 3) := by decide +kernel
theorem d_X_settled_57 : decode prog_1_method_20_code 57 = .ok (.iconst 0, 1) := by decide +kernel
theorem d_X_settled_58 : decode prog_1_method_20_code 58 = .ok (.invokestatic 147, 3) := by decide +kernel
theorem d_X_settled_61 : decode prog_1_method_20_code 61 = .ok (.ireturn, 1) := by decide +kernel
theorem d_K_explore_0 : decode prog_3_method_2_code 0 = .ok (.aload_n 0, 1) := by decide +kernel
theorem d_K_explore_1 : decode prog_3_method_2_code 1 = .ok (.getfield 12, 3) := by decide +kernel
theorem d_K_explore_4 : decode prog_3_method_2_code 4 = .ok (.aload_n 1, 1) := by decide +kernel
theorem d_K_explore_5 : decode prog_3_method_2_code 5 = .ok (.invokevirtual 38, 3) := by decide +kernel
theorem d_K_explore_8 : decode prog_3_method_2_code 8 = .ok (.aload_n 0, 1) := by decide +kernel
theorem d_K_explore_9 : decode prog_3_method_2_code 9 = .ok (.invokevirtual 42, 3) := by decide +kernel
theorem d_K_explore_12 : decode prog_3_method_2_code 12 = .ok (.aload_n 0, 1) := by decide +kernel
theorem d_K_explore_13 : decode prog_3_method_2_code 13 = .ok (.getfield 29, 3) := by decide +kernel
theorem d_K_explore_16 : decode prog_3_method_2_code 16 = .ok (.iconst 0, 1) := by decide +kernel
theorem d_K_explore_17 : decode prog_3_method_2_code 17 = .ok (.invokestatic 45, 3) := by decide +kernel
theorem d_K_explore_20 : decode prog_3_method_2_code 20 = .ok (.aload_n 0, 1) := by decide +kernel
theorem d_K_explore_21 : decode prog_3_method_2_code 21 = .ok (.iconst 0, 1) := by decide +kernel
theorem d_K_explore_22 : decode prog_3_method_2_code 22 = .ok (.putfield 32, 3) := by decide +kernel
theorem d_K_explore_25 : decode prog_3_method_2_code 25 = .ok (.aload_n 0, 1) := by decide +kernel
theorem d_K_explore_26 : decode prog_3_method_2_code 26 = .ok (.iconst 0, 1) := by decide +kernel
theorem d_K_explore_27 : decode prog_3_method_2_code 27 = .ok (.putfield 35, 3) := by decide +kernel
theorem d_K_explore_30 : decode prog_3_method_2_code 30 = .ok (.aload_n 0, 1) := by decide +kernel
theorem d_K_explore_31 : decode prog_3_method_2_code 31 = .ok (.iconst 0, 1) := by decide +kernel
theorem d_K_explore_32 : decode prog_3_method_2_code 32 = .ok (.iconst 0, 1) := by decide +kernel
theorem d_K_explore_33 : decode prog_3_method_2_code 33 = .ok (.invokevirtual 51, 3) := by decide +kernel
theorem d_K_explore_36 : decode prog_3_method_2_code 36 = .ok (.return_, 1) := by decide +kernel
theorem d_K_listArcs_0 : decode prog_3_method_3_code 0 = .ok (.aload_n 0, 1) := by decide +kernel
theorem d_K_listArcs_1 : decode prog_3_method_3_code 1 = .ok (.iconst 0, 1) := by decide +kernel
theorem d_K_listArcs_2 : decode prog_3_method_3_code 2 = .ok (.putfield 18, 3) := by decide +kernel
theorem d_K_listArcs_5 : decode prog_3_method_3_code 5 = .ok (.iconst 0, 1) := by decide +kernel
theorem d_K_listArcs_6 : decode prog_3_method_3_code 6 = .ok (.istore_n 1, 1) := by decide +kernel
theorem d_K_listArcs_7 : decode prog_3_method_3_code 7 = .ok (.iload_n 1, 1) := by decide +kernel
theorem d_K_listArcs_8 : decode prog_3_method_3_code 8 = .ok (.aload_n 0, 1) := by decide +kernel
theorem d_K_listArcs_9 : decode prog_3_method_3_code 9 = .ok (.getfield 12, 3) := by decide +kernel
theorem d_K_listArcs_12 : decode prog_3_method_3_code 12 = .ok (.getfield 55, 3) := by decide +kernel
theorem d_K_listArcs_15 : decode prog_3_method_3_code 15 = .ok (.if_icmp .ge 83, 3) := by decide +kernel
theorem d_K_listArcs_18 : decode prog_3_method_3_code 18 = .ok (.iconst 0, 1) := by decide +kernel
theorem d_K_listArcs_19 : decode prog_3_method_3_code 19 = .ok (.istore_n 2, 1) := by decide +kernel
theorem d_K_listArcs_20 : decode prog_3_method_3_code 20 = .ok (.iload_n 2, 1) := by decide +kernel
theorem d_K_listArcs_21 : decode prog_3_method_3_code 21 = .ok (.aload_n 0, 1) := by decide +kernel
theorem d_K_listArcs_22 : decode prog_3_method_3_code 22 = .ok (.getfield 12, 3) := by decide +kernel
theorem d_K_listArcs_25 : decode prog_3_method_3_code 25 = .ok (.getfield 55, 3) := by decide +kernel
theorem d_K_listArcs_28 : decode prog_3_method_3_code 28 = .ok (.if_icmp .ge 64, 3) := by decide +kernel
theorem d_K_listArcs_31 : decode prog_3_method_3_code 31 = .ok (.aload_n 0, 1) := by decide +kernel
theorem d_K_listArcs_32 : decode prog_3_method_3_code 32 = .ok (.getfield 12, 3) := by decide +kernel
theorem d_K_listArcs_35 : decode prog_3_method_3_code 35 = .ok (.getfield 58, 3) := by decide +kernel
theorem d_K_listArcs_38 : decode prog_3_method_3_code 38 = .ok (.iload_n 1, 1) := by decide +kernel
theorem d_K_listArcs_39 : decode prog_3_method_3_code 39 = .ok (.iaload, 1) := by decide +kernel
theorem d_K_listArcs_40 : decode prog_3_method_3_code 40 = .ok (.iload_n 2, 1) := by decide +kernel
theorem d_K_listArcs_41 : decode prog_3_method_3_code 41 = .ok (.invokestatic 61, 3) := by decide +kernel
theorem d_K_listArcs_44 : decode prog_3_method_3_code 44 = .ok (.ifCond .eq 42, 3) := by decide +kernel
theorem d_K_listArcs_47 : decode prog_3_method_3_code 47 = .ok (.aload_n 0, 1) := by decide +kernel
theorem d_K_listArcs_48 : decode prog_3_method_3_code 48 = .ok (.getfield 18, 3) := by decide +kernel
theorem d_K_listArcs_51 : decode prog_3_method_3_code 51 = .ok (.bipush 10, 2) := by decide +kernel
theorem d_K_listArcs_53 : decode prog_3_method_3_code 53 = .ok (.if_icmp .ge 33, 3) := by decide +kernel
theorem d_K_listArcs_56 : decode prog_3_method_3_code 56 = .ok (.aload_n 0, 1) := by decide +kernel
theorem d_K_listArcs_57 : decode prog_3_method_3_code 57 = .ok (.getfield 22, 3) := by decide +kernel
theorem d_K_listArcs_60 : decode prog_3_method_3_code 60 = .ok (.aload_n 0, 1) := by decide +kernel
theorem d_K_listArcs_61 : decode prog_3_method_3_code 61 = .ok (.getfield 18, 3) := by decide +kernel
theorem d_K_listArcs_64 : decode prog_3_method_3_code 64 = .ok (.iload_n 1, 1) := by decide +kernel
theorem d_K_listArcs_65 : decode prog_3_method_3_code 65 = .ok (.iastore, 1) := by decide +kernel
theorem d_K_listArcs_66 : decode prog_3_method_3_code 66 = .ok (.aload_n 0, 1) := by decide +kernel
theorem d_K_listArcs_67 : decode prog_3_method_3_code 67 = .ok (.getfield 26, 3) := by decide +kernel
theorem d_K_listArcs_70 : decode prog_3_method_3_code 70 = .ok (.aload_n 0, 1) := by decide +kernel
theorem d_K_listArcs_71 : decode prog_3_method_3_code 71 = .ok (.getfield 18, 3) := by decide +kernel
theorem d_K_listArcs_74 : decode prog_3_method_3_code 74 = .ok (.iload_n 2, 1) := by decide +kernel
theorem d_K_listArcs_75 : decode prog_3_method_3_code 75 = .ok (.iastore, 1) := by decide +kernel
theorem d_K_listArcs_76 : decode prog_3_method_3_code 76 = .ok (.aload_n 0, 1) := by decide +kernel
theorem d_K_listArcs_77 : decode prog_3_method_3_code 77 = .ok (.dup, 1) := by decide +kernel
theorem d_K_listArcs_78 : decode prog_3_method_3_code 78 = .ok (.getfield 18, 3) := by decide +kernel
theorem d_K_listArcs_81 : decode prog_3_method_3_code 81 = .ok (.iconst 1, 1) := by decide +kernel
theorem d_K_listArcs_82 : decode prog_3_method_3_code 82 = .ok (.iadd, 1) := by decide +kernel
theorem d_K_listArcs_83 : decode prog_3_method_3_code 83 = .ok (.putfield 18, 3) := by decide +kernel
theorem d_K_listArcs_86 : decode prog_3_method_3_code 86 = .ok (.iinc 2 1, 3) := by decide +kernel
theorem d_K_listArcs_89 : decode prog_3_method_3_code 89 = .ok (.goto (-69), 3) := by decide +kernel
theorem d_K_listArcs_92 : decode prog_3_method_3_code 92 = .ok (.iinc 1 1, 3) := by decide +kernel
theorem d_K_listArcs_95 : decode prog_3_method_3_code 95 = .ok (.goto (-88), 3) := by decide +kernel
theorem d_K_listArcs_98 : decode prog_3_method_3_code 98 = .ok (.return_, 1) := by decide +kernel
theorem d_K_direct_0 : decode prog_3_method_5_code 0 = .ok (.iload_n 1, 1) := by decide +kernel
theorem d_K_direct_1 : decode prog_3_method_5_code 1 = .ok (.aload_n 0, 1) := by decide +kernel
theorem d_K_direct_2 : decode prog_3_method_5_code 2 = .ok (.getfield 18, 3) := by decide +kernel
theorem d_K_direct_5 : decode prog_3_method_5_code 5 = .ok (.if_icmp .lt 24, 3) := by decide +kernel
theorem d_K_direct_8 : decode prog_3_method_5_code 8 = .ok (.aload_n 0, 1) := by decide +kernel
theorem d_K_direct_9 : decode prog_3_method_5_code 9 = .ok (.dup, 1) := by decide +kernel
theorem d_K_direct_10 : decode prog_3_method_5_code 10 = .ok (.getfield 32, 3) := by decide +kernel
theorem d_K_direct_13 : decode prog_3_method_5_code 13 = .ok (.iconst 1, 1) := by decide +kernel
theorem d_K_direct_14 : decode prog_3_method_5_code 14 = .ok (.iadd, 1) := by decide +kernel
theorem d_K_direct_15 : decode prog_3_method_5_code 15 = .ok (.putfield 32, 3) := by decide +kernel
theorem d_K_direct_18 : decode prog_3_method_5_code 18 = .ok (.aload_n 0, 1) := by decide +kernel
theorem d_K_direct_19 : decode prog_3_method_5_code 19 = .ok (.dup, 1) := by decide +kernel
theorem d_K_direct_20 : decode prog_3_method_5_code 20 = .ok (.getfield 35, 3) := by decide +kernel
theorem d_K_direct_23 : decode prog_3_method_5_code 23 = .ok (.iload_n 2, 1) := by decide +kernel
theorem d_K_direct_24 : decode prog_3_method_5_code 24 = .ok (.ior, 1) := by decide +kernel
theorem d_K_direct_25 : decode prog_3_method_5_code 25 = .ok (.putfield 35, 3) := by decide +kernel
theorem d_K_direct_28 : decode prog_3_method_5_code 28 = .ok (.return_, 1) := by decide +kernel
theorem d_K_direct_29 : decode prog_3_method_5_code 29 = .ok (.aload_n 0, 1) := by decide +kernel
theorem d_K_direct_30 : decode prog_3_method_5_code 30 = .ok (.getfield 22, 3) := by decide +kernel
theorem d_K_direct_33 : decode prog_3_method_5_code 33 = .ok (.iload_n 1, 1) := by decide +kernel
theorem d_K_direct_34 : decode prog_3_method_5_code 34 = .ok (.iaload, 1) := by decide +kernel
theorem d_K_direct_35 : decode prog_3_method_5_code 35 = .ok (.istore_n 3, 1) := by decide +kernel
theorem d_K_direct_36 : decode prog_3_method_5_code 36 = .ok (.aload_n 0, 1) := by decide +kernel
theorem d_K_direct_37 : decode prog_3_method_5_code 37 = .ok (.getfield 26, 3) := by decide +kernel
theorem d_K_direct_40 : decode prog_3_method_5_code 40 = .ok (.iload_n 1, 1) := by decide +kernel
theorem d_K_direct_41 : decode prog_3_method_5_code 41 = .ok (.iaload, 1) := by decide +kernel
theorem d_K_direct_42 : decode prog_3_method_5_code 42 = .ok (.istore 4, 2) := by decide +kernel
theorem d_K_direct_44 : decode prog_3_method_5_code 44 = .ok (.aload_n 0, 1) := by decide +kernel
theorem d_K_direct_45 : decode prog_3_method_5_code 45 = .ok (.iload_n 1, 1) := by decide +kernel
theorem d_K_direct_46 : decode prog_3_method_5_code 46 = .ok (.iload_n 3, 1) := by decide +kernel
theorem d_K_direct_47 : decode prog_3_method_5_code 47 = .ok (.iload 4, 2) := by decide +kernel
theorem d_K_direct_49 : decode prog_3_method_5_code 49 = .ok (.iload_n 2, 1) := by decide +kernel
theorem d_K_direct_50 : decode prog_3_method_5_code 50 = .ok (.invokevirtual 65, 3) := by decide +kernel
theorem d_K_direct_53 : decode prog_3_method_5_code 53 = .ok (.aload_n 0, 1) := by decide +kernel
theorem d_K_direct_54 : decode prog_3_method_5_code 54 = .ok (.getfield 12, 3) := by decide +kernel
theorem d_K_direct_57 : decode prog_3_method_5_code 57 = .ok (.iload_n 3, 1) := by decide +kernel
theorem d_K_direct_58 : decode prog_3_method_5_code 58 = .ok (.iload 4, 2) := by decide +kernel
theorem d_K_direct_60 : decode prog_3_method_5_code 60 = .ok (.invokevirtual 69, 3) := by decide +kernel
theorem d_K_direct_63 : decode prog_3_method_5_code 63 = .ok (.ifCond .ne 17, 3) := by decide +kernel
theorem d_K_direct_66 : decode prog_3_method_5_code 66 = .ok (.aload_n 0, 1) := by decide +kernel
theorem d_K_direct_67 : decode prog_3_method_5_code 67 = .ok (.iload_n 1, 1) := by decide +kernel
theorem d_K_direct_68 : decode prog_3_method_5_code 68 = .ok (.iload 4, 2) := by decide +kernel
theorem d_K_direct_70 : decode prog_3_method_5_code 70 = .ok (.iload_n 3, 1) := by decide +kernel
theorem d_K_direct_71 : decode prog_3_method_5_code 71 = .ok (.iload_n 2, 1) := by decide +kernel
theorem d_K_direct_72 : decode prog_3_method_5_code 72 = .ok (.iload_n 1, 1) := by decide +kernel
theorem d_K_direct_73 : decode prog_3_method_5_code 73 = .ok (.invokestatic 73, 3) := by decide +kernel
theorem d_K_direct_76 : decode prog_3_method_5_code 76 = .ok (.ior, 1) := by decide +kernel
theorem d_K_direct_77 : decode prog_3_method_5_code 77 = .ok (.invokevirtual 65, 3) := by decide +kernel
theorem d_K_direct_80 : decode prog_3_method_5_code 80 = .ok (.return_, 1) := by decide +kernel
theorem d_K_directOne_0 : decode prog_3_method_6_code 0 = .ok (.aload_n 0, 1) := by decide +kernel
theorem d_K_directOne_1 : decode prog_3_method_6_code 1 = .ok (.iload_n 2, 1) := by decide +kernel
theorem d_K_directOne_2 : decode prog_3_method_6_code 2 = .ok (.iload_n 3, 1) := by decide +kernel
theorem d_K_directOne_3 : decode prog_3_method_6_code 3 = .ok (.invokevirtual 77, 3) := by decide +kernel
theorem d_K_directOne_6 : decode prog_3_method_6_code 6 = .ok (.ifCond .eq 21, 3) := by decide +kernel
theorem d_K_directOne_9 : decode prog_3_method_6_code 9 = .ok (.aload_n 0, 1) := by decide +kernel
theorem d_K_directOne_10 : decode prog_3_method_6_code 10 = .ok (.getfield 29, 3) := by decide +kernel
theorem d_K_directOne_13 : decode prog_3_method_6_code 13 = .ok (.iload_n 2, 1) := by decide +kernel
theorem d_K_directOne_14 : decode prog_3_method_6_code 14 = .ok (.invokestatic 73, 3) := by decide +kernel
theorem d_K_directOne_17 : decode prog_3_method_6_code 17 = .ok (.invokestatic 80, 3) := by decide +kernel
theorem d_K_directOne_20 : decode prog_3_method_6_code 20 = .ok (.iload_n 3, 1) := by decide +kernel
theorem d_K_directOne_21 : decode prog_3_method_6_code 21 = .ok (.invokestatic 61, 3) := by decide +kernel
theorem d_K_directOne_24 : decode prog_3_method_6_code 24 = .ok (.ifCond .eq 4, 3) := by decide +kernel
theorem d_K_directOne_27 : decode prog_3_method_6_code 27 = .ok (.return_, 1) := by decide +kernel
theorem d_K_directOne_28 : decode prog_3_method_6_code 28 = .ok (.aload_n 0, 1) := by decide +kernel
theorem d_K_directOne_29 : decode prog_3_method_6_code 29 = .ok (.getfield 29, 3) := by decide +kernel
theorem d_K_directOne_32 : decode prog_3_method_6_code 32 = .ok (.iload_n 3, 1) := by decide +kernel
theorem d_K_directOne_33 : decode prog_3_method_6_code 33 = .ok (.dup2, 1) := by decide +kernel
theorem d_K_directOne_34 : decode prog_3_method_6_code 34 = .ok (.iaload, 1) := by decide +kernel
theorem d_K_directOne_35 : decode prog_3_method_6_code 35 = .ok (.iload_n 2, 1) := by decide +kernel
theorem d_K_directOne_36 : decode prog_3_method_6_code 36 = .ok (.invokestatic 73, 3) := by decide +kernel
theorem d_K_directOne_39 : decode prog_3_method_6_code 39 = .ok (.ior, 1) := by decide +kernel
theorem d_K_directOne_40 : decode prog_3_method_6_code 40 = .ok (.iastore, 1) := by decide +kernel
theorem d_K_directOne_41 : decode prog_3_method_6_code 41 = .ok (.aload_n 0, 1) := by decide +kernel
theorem d_K_directOne_42 : decode prog_3_method_6_code 42 = .ok (.iload_n 1, 1) := by decide +kernel
theorem d_K_directOne_43 : decode prog_3_method_6_code 43 = .ok (.iconst 1, 1) := by decide +kernel
theorem d_K_directOne_44 : decode prog_3_method_6_code 44 = .ok (.iadd, 1) := by decide +kernel
theorem d_K_directOne_45 : decode prog_3_method_6_code 45 = .ok (.iload 4, 2) := by decide +kernel
theorem d_K_directOne_47 : decode prog_3_method_6_code 47 = .ok (.invokevirtual 51, 3) := by decide +kernel
theorem d_K_directOne_50 : decode prog_3_method_6_code 50 = .ok (.aload_n 0, 1) := by decide +kernel
theorem d_K_directOne_51 : decode prog_3_method_6_code 51 = .ok (.getfield 29, 3) := by decide +kernel
theorem d_K_directOne_54 : decode prog_3_method_6_code 54 = .ok (.iload_n 3, 1) := by decide +kernel
theorem d_K_directOne_55 : decode prog_3_method_6_code 55 = .ok (.dup2, 1) := by decide +kernel
theorem d_K_directOne_56 : decode prog_3_method_6_code 56 = .ok (.iaload, 1) := by decide +kernel
theorem d_K_directOne_57 : decode prog_3_method_6_code 57 = .ok (.iload_n 2, 1) := by decide +kernel
theorem d_K_directOne_58 : decode prog_3_method_6_code 58 = .ok (.invokestatic 73, 3) := by decide +kernel
theorem d_K_directOne_61 : decode prog_3_method_6_code 61 = .ok (.iconst (-1), 1) := by decide +kernel
theorem d_K_directOne_62 : decode prog_3_method_6_code 62 = .ok (.ixor, 1) := by decide +kernel
theorem d_K_directOne_63 : decode prog_3_method_6_code 63 = .ok (.iand, 1) := by decide +kernel
theorem d_K_directOne_64 : decode prog_3_method_6_code 64 = .ok (.iastore, 1) := by decide +kernel
theorem d_K_directOne_65 : decode prog_3_method_6_code 65 = .ok (.return_, 1) := by decide +kernel
theorem d_K_meetsAsFirst_0 : decode prog_3_method_7_code 0 = .ok (.aload_n 0, 1) := by decide +kernel
theorem d_K_meetsAsFirst_1 : decode prog_3_method_7_code 1 = .ok (.getfield 29, 3) := by decide +kernel
theorem d_K_meetsAsFirst_4 : decode prog_3_method_7_code 4 = .ok (.iload_n 2, 1) := by decide +kernel
theorem d_K_meetsAsFirst_5 : decode prog_3_method_7_code 5 = .ok (.iaload, 1) := by decide +kernel
theorem d_K_meetsAsFirst_6 : decode prog_3_method_7_code 6 = .ok (.aload_n 0, 1) := by decide +kernel
theorem d_K_meetsAsFirst_7 : decode prog_3_method_7_code 7 = .ok (.getfield 12, 3) := by decide +kernel
theorem d_K_meetsAsFirst_10 : decode prog_3_method_7_code 10 = .ok (.iload_n 1, 1) := by decide +kernel
theorem d_K_meetsAsFirst_11 : decode prog_3_method_7_code 11 = .ok (.invokevirtual 84, 3) := by decide +kernel
theorem d_K_meetsAsFirst_14 : decode prog_3_method_7_code 14 = .ok (.iconst (-1), 1) := by decide +kernel
theorem d_K_meetsAsFirst_15 : decode prog_3_method_7_code 15 = .ok (.ixor, 1) := by decide +kernel
theorem d_K_meetsAsFirst_16 : decode prog_3_method_7_code 16 = .ok (.iand, 1) := by decide +kernel
theorem d_K_meetsAsFirst_17 : decode prog_3_method_7_code 17 = .ok (.istore_n 3, 1) := by decide +kernel
theorem d_K_meetsAsFirst_18 : decode prog_3_method_7_code 18 = .ok (.iload_n 3, 1) := by decide +kernel
theorem d_K_meetsAsFirst_19 : decode prog_3_method_7_code 19 = .ok (.aload_n 0, 1) := by decide +kernel
theorem d_K_meetsAsFirst_20 : decode prog_3_method_7_code 20 = .ok (.getfield 12, 3) := by decide +kernel
theorem d_K_meetsAsFirst_23 : decode prog_3_method_7_code 23 = .ok (.iload_n 1, 1) := by decide +kernel
theorem d_K_meetsAsFirst_24 : decode prog_3_method_7_code 24 = .ok (.iload_n 2, 1) := by decide +kernel
theorem d_K_meetsAsFirst_25 : decode prog_3_method_7_code 25 = .ok (.invokevirtual 69, 3) := by decide +kernel
theorem d_K_meetsAsFirst_28 : decode prog_3_method_7_code 28 = .ok (.iconst (-1), 1) := by decide +kernel
theorem d_K_meetsAsFirst_29 : decode prog_3_method_7_code 29 = .ok (.ixor, 1) := by decide +kernel
theorem d_K_meetsAsFirst_30 : decode prog_3_method_7_code 30 = .ok (.iand, 1) := by decide +kernel
theorem d_K_meetsAsFirst_31 : decode prog_3_method_7_code 31 = .ok (.ifCond .ne 7, 3) := by decide +kernel
theorem d_K_meetsAsFirst_34 : decode prog_3_method_7_code 34 = .ok (.iconst 1, 1) := by decide +kernel
theorem d_K_meetsAsFirst_35 : decode prog_3_method_7_code 35 = .ok (.goto 4, 3) := by decide +kernel
theorem d_K_meetsAsFirst_38 : decode prog_3_method_7_code 38 = .ok (.iconst 0, 1) := by decide +kernel
theorem d_K_meetsAsFirst_39 : decode prog_3_method_7_code 39 = .ok (.ireturn, 1) := by decide +kernel
theorem d_K_isTurned_0 : decode prog_3_method_4_code 0 = .ok (.iconst 0, 1) := by decide +kernel
theorem d_K_isTurned_1 : decode prog_3_method_4_code 1 = .ok (.istore_n 3, 1) := by decide +kernel
theorem d_K_isTurned_2 : decode prog_3_method_4_code 2 = .ok (.iload_n 3, 1) := by decide +kernel
theorem d_K_isTurned_3 : decode prog_3_method_4_code 3 = .ok (.aload_n 0, 1) := by decide +kernel
theorem d_K_isTurned_4 : decode prog_3_method_4_code 4 = .ok (.getfield 18, 3) := by decide +kernel
theorem d_K_isTurned_7 : decode prog_3_method_4_code 7 = .ok (.if_icmp .ge 38, 3) := by decide +kernel
theorem d_K_isTurned_10 : decode prog_3_method_4_code 10 = .ok (.aload_n 0, 1) := by decide +kernel
theorem d_K_isTurned_11 : decode prog_3_method_4_code 11 = .ok (.getfield 22, 3) := by decide +kernel
theorem d_K_isTurned_14 : decode prog_3_method_4_code 14 = .ok (.iload_n 3, 1) := by decide +kernel
theorem d_K_isTurned_15 : decode prog_3_method_4_code 15 = .ok (.iaload, 1) := by decide +kernel
theorem d_K_isTurned_16 : decode prog_3_method_4_code 16 = .ok (.iload_n 1, 1) := by decide +kernel
theorem d_K_isTurned_17 : decode prog_3_method_4_code 17 = .ok (.if_icmp .ne 22, 3) := by decide +kernel
theorem d_K_isTurned_20 : decode prog_3_method_4_code 20 = .ok (.aload_n 0, 1) := by decide +kernel
theorem d_K_isTurned_21 : decode prog_3_method_4_code 21 = .ok (.getfield 26, 3) := by decide +kernel
theorem d_K_isTurned_24 : decode prog_3_method_4_code 24 = .ok (.iload_n 3, 1) := by decide +kernel
theorem d_K_isTurned_25 : decode prog_3_method_4_code 25 = .ok (.iaload, 1) := by decide +kernel
theorem d_K_isTurned_26 : decode prog_3_method_4_code 26 = .ok (.iload_n 2, 1) := by decide +kernel
theorem d_K_isTurned_27 : decode prog_3_method_4_code 27 = .ok (.if_icmp .ne 12, 3) := by decide +kernel
theorem d_K_isTurned_30 : decode prog_3_method_4_code 30 = .ok (.aload_n 0, 1) := by decide +kernel
theorem d_K_isTurned_31 : decode prog_3_method_4_code 31 = .ok (.getfield 35, 3) := by decide +kernel
theorem d_K_isTurned_34 : decode prog_3_method_4_code 34 = .ok (.iload_n 3, 1) := by decide +kernel
theorem d_K_isTurned_35 : decode prog_3_method_4_code 35 = .ok (.invokestatic 61, 3) := by decide +kernel
theorem d_K_isTurned_38 : decode prog_3_method_4_code 38 = .ok (.ireturn, 1) := by decide +kernel
theorem d_K_isTurned_39 : decode prog_3_method_4_code 39 = .ok (.iinc 3 1, 3) := by decide +kernel
theorem d_K_isTurned_42 : decode prog_3_method_4_code 42 = .ok (.goto (-40), 3) := by decide +kernel
end
section
theorem d_K_isTurned_45 : decode prog_3_method_4_code 45 = .ok (.iconst 0, 1) := by decide +kernel
theorem d_K_isTurned_46 : decode prog_3_method_4_code 46 = .ok (.ireturn, 1) := by decide +kernel
theorem d_X_family_0 : decode prog_1_method_21_code 0 = .ok (.aload_n 0, 1) := by decide +kernel
theorem d_X_family_1 : decode prog_1_method_21_code 1 = .ok (.getfield 40, 3) := by decide +kernel
theorem d_X_family_4 : decode prog_1_method_21_code 4 = .ok (.aload_n 0, 1) := by decide +kernel
theorem d_X_family_5 : decode prog_1_method_21_code 5 = .ok (.getfield 12, 3) := by decide +kernel
theorem d_X_family_8 : decode prog_1_method_21_code 8 = .ok (.invokevirtual 178, 3) := by decide +kernel
theorem d_X_family_11 : decode prog_1_method_21_code 11 = .ok (.aload_n 0, 1) := by decide +kernel
theorem d_X_family_12 : decode prog_1_method_21_code 12 = .ok (.getfield 40, 3) := by decide +kernel
theorem d_X_family_15 : decode prog_1_method_21_code 15 = .ok (.getfield 184, 3) := by decide +kernel
theorem d_X_family_18 : decode prog_1_method_21_code 18 = .ok (.ireturn, 1) := by decide +kernel
theorem d_X_count_0 : decode prog_1_method_22_code 0 = .ok (.iload_n 1, 1) := by decide +kernel
theorem d_X_count_1 : decode prog_1_method_22_code 1 = .ok (.tableswitch 88 0 3 #[31, 39, 47, 77], 31) := by decide +kernel
theorem d_X_count_32 : decode prog_1_method_22_code 32 = .ok (.aload_n 0, 1) := by decide +kernel
theorem d_X_count_33 : decode prog_1_method_22_code 33 = .ok (.getfield 12, 3) := by decide +kernel
theorem d_X_count_36 : decode prog_1_method_22_code 36 = .ok (.getfield 60, 3) := by decide +kernel
theorem d_X_count_39 : decode prog_1_method_22_code 39 = .ok (.ireturn, 1) := by decide +kernel
theorem d_X_count_40 : decode prog_1_method_22_code 40 = .ok (.aload_n 0, 1) := by decide +kernel
theorem d_X_count_41 : decode prog_1_method_22_code 41 = .ok (.getfield 12, 3) := by decide +kernel
theorem d_X_count_44 : decode prog_1_method_22_code 44 = .ok (.getfield 96, 3) := by decide +kernel
theorem d_X_count_47 : decode prog_1_method_22_code 47 = .ok (.ireturn, 1) := by decide +kernel
theorem d_X_count_48 : decode prog_1_method_22_code 48 = .ok (.aload_n 0, 1) := by decide +kernel
theorem d_X_count_49 : decode prog_1_method_22_code 49 = .ok (.getfield 40, 3) := by decide +kernel
theorem d_X_count_52 : decode prog_1_method_22_code 52 = .ok (.aload_n 0, 1) := by decide +kernel
theorem d_X_count_53 : decode prog_1_method_22_code 53 = .ok (.getfield 12, 3) := by decide +kernel
theorem d_X_count_56 : decode prog_1_method_22_code 56 = .ok (.invokevirtual 178, 3) := by decide +kernel
theorem d_X_count_59 : decode prog_1_method_22_code 59 = .ok (.aload_n 0, 1) := by decide +kernel
theorem d_X_count_60 : decode prog_1_method_22_code 60 = .ok (.getfield 12, 3) := by decide +kernel
theorem d_X_count_63 : decode prog_1_method_22_code 63 = .ok (.getfield 96, 3) := by decide +kernel
theorem d_X_count_66 : decode prog_1_method_22_code 66 = .ok (.aload_n 0, 1) := by decide +kernel
theorem d_X_count_67 : decode prog_1_method_22_code 67 = .ok (.getfield 40, 3) := by decide +kernel
theorem d_X_count_70 : decode prog_1_method_22_code 70 = .ok (.getfield 187, 3) := by decide +kernel
theorem d_X_count_73 : decode prog_1_method_22_code 73 = .ok (.invokestatic 190, 3) := by decide +kernel
theorem d_X_count_76 : decode prog_1_method_22_code 76 = .ok (.isub, 1) := by decide +kernel
theorem d_X_count_77 : decode prog_1_method_22_code 77 = .ok (.ireturn, 1) := by decide +kernel
theorem d_X_count_78 : decode prog_1_method_22_code 78 = .ok (.aload_n 0, 1) := by decide +kernel
theorem d_X_count_79 : decode prog_1_method_22_code 79 = .ok (.getfield 26, 3) := by decide +kernel
theorem d_X_count_82 : decode prog_1_method_22_code 82 = .ok (.getfield 126, 3) := by decide +kernel
theorem d_X_count_85 : decode prog_1_method_22_code 85 = .ok (.invokestatic 190, 3) := by decide +kernel
theorem d_X_count_88 : decode prog_1_method_22_code 88 = .ok (.ireturn, 1) := by decide +kernel
theorem d_X_count_89 : decode prog_1_method_22_code 89 = .ok (.bipush (-2), 2) := by decide +kernel
theorem d_X_count_91 : decode prog_1_method_22_code 91 = .ok (.ireturn, 1) := by decide +kernel
theorem d_Y_init_0 : decode prog_8_method_1_code 0 = .ok (.aload_n 0, 1) := by decide +kernel
theorem d_Y_init_1 : decode prog_8_method_1_code 1 = .ok (.invokespecial 1, 3) := by decide +kernel
theorem d_Y_init_4 : decode prog_8_method_1_code 4 = .ok (.aload_n 0, 1) := by decide +kernel
theorem d_Y_init_5 : decode prog_8_method_1_code 5 = .ok (.bipush 8, 2) := by decide +kernel
theorem d_Y_init_7 : decode prog_8_method_1_code 7 = .ok (.newarray .int, 2) := by decide +kernel
theorem d_Y_init_9 : decode prog_8_method_1_code 9 = .ok (.putfield 7, 3) := by decide +kernel
theorem d_Y_init_12 : decode prog_8_method_1_code 12 = .ok (.aload_n 0, 1) := by decide +kernel
theorem d_Y_init_13 : decode prog_8_method_1_code 13 = .ok (.bipush 8, 2) := by decide +kernel
theorem d_Y_init_15 : decode prog_8_method_1_code 15 = .ok (.newarray .int, 2) := by decide +kernel
theorem d_Y_init_17 : decode prog_8_method_1_code 17 = .ok (.putfield 13, 3) := by decide +kernel
theorem d_Y_init_20 : decode prog_8_method_1_code 20 = .ok (.aload_n 0, 1) := by decide +kernel
theorem d_Y_init_21 : decode prog_8_method_1_code 21 = .ok (.sipush 1024, 3) := by decide +kernel
theorem d_Y_init_24 : decode prog_8_method_1_code 24 = .ok (.newarray .int, 2) := by decide +kernel
theorem d_Y_init_26 : decode prog_8_method_1_code 26 = .ok (.putfield 16, 3) := by decide +kernel
theorem d_Y_init_29 : decode prog_8_method_1_code 29 = .ok (.aload_n 0, 1) := by decide +kernel
theorem d_Y_init_30 : decode prog_8_method_1_code 30 = .ok (.bipush 8, 2) := by decide +kernel
theorem d_Y_init_32 : decode prog_8_method_1_code 32 = .ok (.newarray .int, 2) := by decide +kernel
theorem d_Y_init_34 : decode prog_8_method_1_code 34 = .ok (.putfield 19, 3) := by decide +kernel
theorem d_Y_init_37 : decode prog_8_method_1_code 37 = .ok (.aload_n 0, 1) := by decide +kernel
theorem d_Y_init_38 : decode prog_8_method_1_code 38 = .ok (.bipush 8, 2) := by decide +kernel
theorem d_Y_init_40 : decode prog_8_method_1_code 40 = .ok (.newarray .int, 2) := by decide +kernel
theorem d_Y_init_42 : decode prog_8_method_1_code 42 = .ok (.putfield 22, 3) := by decide +kernel
theorem d_Y_init_45 : decode prog_8_method_1_code 45 = .ok (.aload_n 0, 1) := by decide +kernel
theorem d_Y_init_46 : decode prog_8_method_1_code 46 = .ok (.bipush 8, 2) := by decide +kernel
theorem d_Y_init_48 : decode prog_8_method_1_code 48 = .ok (.newarray .int, 2) := by decide +kernel
theorem d_Y_init_50 : decode prog_8_method_1_code 50 = .ok (.putfield 25, 3) := by decide +kernel
theorem d_Y_init_53 : decode prog_8_method_1_code 53 = .ok (.aload_n 0, 1) := by decide +kernel
theorem d_Y_init_54 : decode prog_8_method_1_code 54 = .ok (.bipush 8, 2) := by decide +kernel
theorem d_Y_init_56 : decode prog_8_method_1_code 56 = .ok (.newarray .int, 2) := by decide +kernel
theorem d_Y_init_58 : decode prog_8_method_1_code 58 = .ok (.putfield 28, 3) := by decide +kernel
theorem d_Y_init_61 : decode prog_8_method_1_code 61 = .ok (.aload_n 0, 1) := by decide +kernel
theorem d_Y_init_62 : decode prog_8_method_1_code 62 = .ok (.iconst 2, 1) := by decide +kernel
theorem d_Y_init_63 : decode prog_8_method_1_code 63 = .ok (.newarray .int, 2) := by decide +kernel
theorem d_Y_init_65 : decode prog_8_method_1_code 65 = .ok (.putfield 31, 3) := by decide +kernel
theorem d_Y_init_68 : decode prog_8_method_1_code 68 = .ok (.aload_n 0, 1) := by decide +kernel
theorem d_Y_init_69 : decode prog_8_method_1_code 69 = .ok (.iconst 2, 1) := by decide +kernel
theorem d_Y_init_70 : decode prog_8_method_1_code 70 = .ok (.newarray .int, 2) := by decide +kernel
theorem d_Y_init_72 : decode prog_8_method_1_code 72 = .ok (.putfield 34, 3) := by decide +kernel
theorem d_Y_init_75 : decode prog_8_method_1_code 75 = .ok (.aload_n 0, 1) := by decide +kernel
theorem d_Y_init_76 : decode prog_8_method_1_code 76 = .ok (.iconst 2, 1) := by decide +kernel
theorem d_Y_init_77 : decode prog_8_method_1_code 77 = .ok (.newarray .int, 2) := by decide +kernel
theorem d_Y_init_79 : decode prog_8_method_1_code 79 = .ok (.putfield 37, 3) := by decide +kernel
theorem d_Y_init_82 : decode prog_8_method_1_code 82 = .ok (.aload_n 0, 1) := by decide +kernel
theorem d_Y_init_83 : decode prog_8_method_1_code 83 = .ok (.sipush 256, 3) := by decide +kernel
theorem d_Y_init_86 : decode prog_8_method_1_code 86 = .ok (.newarray .long, 2) := by decide +kernel
theorem d_Y_init_88 : decode prog_8_method_1_code 88 = .ok (.putfield 40, 3) := by decide +kernel
theorem d_Y_init_91 : decode prog_8_method_1_code 91 = .ok (.aload_n 0, 1) := by decide +kernel
theorem d_Y_init_92 : decode prog_8_method_1_code 92 = .ok (.sipush 1024, 3) := by decide +kernel
theorem d_Y_init_95 : decode prog_8_method_1_code 95 = .ok (.newarray .long, 2) := by decide +kernel
theorem d_Y_init_97 : decode prog_8_method_1_code 97 = .ok (.putfield 44, 3) := by decide +kernel
theorem d_Y_init_100 : decode prog_8_method_1_code 100 = .ok (.aload_n 0, 1) := by decide +kernel
theorem d_Y_init_101 : decode prog_8_method_1_code 101 = .ok (.sipush 16384, 3) := by decide +kernel
theorem d_Y_init_104 : decode prog_8_method_1_code 104 = .ok (.newarray .boolean, 2) := by decide +kernel
theorem d_Y_init_106 : decode prog_8_method_1_code 106 = .ok (.putfield 47, 3) := by decide +kernel
theorem d_Y_init_109 : decode prog_8_method_1_code 109 = .ok (.aload_n 0, 1) := by decide +kernel
theorem d_Y_init_110 : decode prog_8_method_1_code 110 = .ok (.bipush 10, 2) := by decide +kernel
theorem d_Y_init_112 : decode prog_8_method_1_code 112 = .ok (.newarray .int, 2) := by decide +kernel
theorem d_Y_init_114 : decode prog_8_method_1_code 114 = .ok (.putfield 51, 3) := by decide +kernel
theorem d_Y_init_117 : decode prog_8_method_1_code 117 = .ok (.aload_n 0, 1) := by decide +kernel
theorem d_Y_init_118 : decode prog_8_method_1_code 118 = .ok (.bipush 10, 2) := by decide +kernel
theorem d_Y_init_120 : decode prog_8_method_1_code 120 = .ok (.newarray .int, 2) := by decide +kernel
theorem d_Y_init_122 : decode prog_8_method_1_code 122 = .ok (.putfield 54, 3) := by decide +kernel
theorem d_Y_init_125 : decode prog_8_method_1_code 125 = .ok (.aload_n 0, 1) := by decide +kernel
theorem d_Y_init_126 : decode prog_8_method_1_code 126 = .ok (.bipush 8, 2) := by decide +kernel
theorem d_Y_init_128 : decode prog_8_method_1_code 128 = .ok (.newarray .int, 2) := by decide +kernel
theorem d_Y_init_130 : decode prog_8_method_1_code 130 = .ok (.putfield 57, 3) := by decide +kernel
theorem d_Y_init_133 : decode prog_8_method_1_code 133 = .ok (.aload_n 0, 1) := by decide +kernel
theorem d_Y_init_134 : decode prog_8_method_1_code 134 = .ok (.invokevirtual 60, 3) := by decide +kernel
theorem d_Y_init_137 : decode prog_8_method_1_code 137 = .ok (.return_, 1) := by decide +kernel
theorem d_Y_begin_0 : decode prog_8_method_2_code 0 = .ok (.aload_n 0, 1) := by decide +kernel
theorem d_Y_begin_1 : decode prog_8_method_2_code 1 = .ok (.iconst 0, 1) := by decide +kernel
theorem d_Y_begin_2 : decode prog_8_method_2_code 2 = .ok (.putfield 63, 3) := by decide +kernel
theorem d_Y_begin_5 : decode prog_8_method_2_code 5 = .ok (.aload_n 0, 1) := by decide +kernel
theorem d_Y_begin_6 : decode prog_8_method_2_code 6 = .ok (.iconst 0, 1) := by decide +kernel
theorem d_Y_begin_7 : decode prog_8_method_2_code 7 = .ok (.putfield 67, 3) := by decide +kernel
theorem d_Y_begin_10 : decode prog_8_method_2_code 10 = .ok (.aload_n 0, 1) := by decide +kernel
theorem d_Y_begin_11 : decode prog_8_method_2_code 11 = .ok (.iconst 0, 1) := by decide +kernel
theorem d_Y_begin_12 : decode prog_8_method_2_code 12 = .ok (.putfield 70, 3) := by decide +kernel
theorem d_Y_begin_15 : decode prog_8_method_2_code 15 = .ok (.aload_n 0, 1) := by decide +kernel
theorem d_Y_begin_16 : decode prog_8_method_2_code 16 = .ok (.iconst 0, 1) := by decide +kernel
theorem d_Y_begin_17 : decode prog_8_method_2_code 17 = .ok (.putfield 74, 3) := by decide +kernel
theorem d_Y_begin_20 : decode prog_8_method_2_code 20 = .ok (.iconst 0, 1) := by decide +kernel
theorem d_Y_begin_21 : decode prog_8_method_2_code 21 = .ok (.istore_n 1, 1) := by decide +kernel
theorem d_Y_begin_22 : decode prog_8_method_2_code 22 = .ok (.iload_n 1, 1) := by decide +kernel
theorem d_Y_begin_23 : decode prog_8_method_2_code 23 = .ok (.bipush 8, 2) := by decide +kernel
theorem d_Y_begin_25 : decode prog_8_method_2_code 25 = .ok (.if_icmp .ge 23, 3) := by decide +kernel
theorem d_Y_begin_28 : decode prog_8_method_2_code 28 = .ok (.aload_n 0, 1) := by decide +kernel
theorem d_Y_begin_29 : decode prog_8_method_2_code 29 = .ok (.getfield 7, 3) := by decide +kernel
theorem d_Y_begin_32 : decode prog_8_method_2_code 32 = .ok (.iload_n 1, 1) := by decide +kernel
theorem d_Y_begin_33 : decode prog_8_method_2_code 33 = .ok (.iconst 0, 1) := by decide +kernel
theorem d_Y_begin_34 : decode prog_8_method_2_code 34 = .ok (.iastore, 1) := by decide +kernel
theorem d_Y_begin_35 : decode prog_8_method_2_code 35 = .ok (.aload_n 0, 1) := by decide +kernel
theorem d_Y_begin_36 : decode prog_8_method_2_code 36 = .ok (.getfield 13, 3) := by decide +kernel
theorem d_Y_begin_39 : decode prog_8_method_2_code 39 = .ok (.iload_n 1, 1) := by decide +kernel
theorem d_Y_begin_40 : decode prog_8_method_2_code 40 = .ok (.iconst (-1), 1) := by decide +kernel
theorem d_Y_begin_41 : decode prog_8_method_2_code 41 = .ok (.iastore, 1) := by decide +kernel
theorem d_Y_begin_42 : decode prog_8_method_2_code 42 = .ok (.iinc 1 1, 3) := by decide +kernel
theorem d_Y_begin_45 : decode prog_8_method_2_code 45 = .ok (.goto (-23), 3) := by decide +kernel
theorem d_Y_begin_48 : decode prog_8_method_2_code 48 = .ok (.return_, 1) := by decide +kernel
theorem d_Y_clear_0 : decode prog_8_method_3_code 0 = .ok (.aload_n 0, 1) := by decide +kernel
theorem d_Y_clear_1 : decode prog_8_method_3_code 1 = .ok (.getfield 63, 3) := by decide +kernel
theorem d_Y_clear_4 : decode prog_8_method_3_code 4 = .ok (.istore_n 1, 1) := by decide +kernel
theorem d_Y_clear_5 : decode prog_8_method_3_code 5 = .ok (.aload_n 0, 1) := by decide +kernel
theorem d_Y_clear_6 : decode prog_8_method_3_code 6 = .ok (.invokevirtual 60, 3) := by decide +kernel
theorem d_Y_clear_9 : decode prog_8_method_3_code 9 = .ok (.iload_n 1, 1) := by decide +kernel
theorem d_Y_clear_10 : decode prog_8_method_3_code 10 = .ok (.ireturn, 1) := by decide +kernel
theorem d_Y_place_0 : decode prog_8_method_9_code 0 = .ok (.aload_n 0, 1) := by decide +kernel
theorem d_Y_place_1 : decode prog_8_method_9_code 1 = .ok (.getfield 63, 3) := by decide +kernel
theorem d_Y_place_4 : decode prog_8_method_9_code 4 = .ok (.bipush 8, 2) := by decide +kernel
theorem d_Y_place_6 : decode prog_8_method_9_code 6 = .ok (.if_icmp .ne 6, 3) := by decide +kernel
theorem d_Y_place_9 : decode prog_8_method_9_code 9 = .ok (.bipush (-3), 2) := by decide +kernel
theorem d_Y_place_11 : decode prog_8_method_9_code 11 = .ok (.ireturn, 1) := by decide +kernel
theorem d_Y_place_12 : decode prog_8_method_9_code 12 = .ok (.aload_n 0, 1) := by decide +kernel
theorem d_Y_place_13 : decode prog_8_method_9_code 13 = .ok (.getfield 63, 3) := by decide +kernel
theorem d_Y_place_16 : decode prog_8_method_9_code 16 = .ok (.istore_n 1, 1) := by decide +kernel
theorem d_Y_place_17 : decode prog_8_method_9_code 17 = .ok (.aload_n 0, 1) := by decide +kernel
theorem d_Y_place_18 : decode prog_8_method_9_code 18 = .ok (.dup, 1) := by decide +kernel
theorem d_Y_place_19 : decode prog_8_method_9_code 19 = .ok (.getfield 63, 3) := by decide +kernel
theorem d_Y_place_22 : decode prog_8_method_9_code 22 = .ok (.iconst 1, 1) := by decide +kernel
theorem d_Y_place_23 : decode prog_8_method_9_code 23 = .ok (.iadd, 1) := by decide +kernel
theorem d_Y_place_24 : decode prog_8_method_9_code 24 = .ok (.putfield 63, 3) := by decide +kernel
theorem d_Y_place_27 : decode prog_8_method_9_code 27 = .ok (.aload_n 0, 1) := by decide +kernel
theorem d_Y_place_28 : decode prog_8_method_9_code 28 = .ok (.getfield 7, 3) := by decide +kernel
theorem d_Y_place_31 : decode prog_8_method_9_code 31 = .ok (.iload_n 1, 1) := by decide +kernel
theorem d_Y_place_32 : decode prog_8_method_9_code 32 = .ok (.iconst 0, 1) := by decide +kernel
theorem d_Y_place_33 : decode prog_8_method_9_code 33 = .ok (.iastore, 1) := by decide +kernel
theorem d_Y_place_34 : decode prog_8_method_9_code 34 = .ok (.aload_n 0, 1) := by decide +kernel
theorem d_Y_place_35 : decode prog_8_method_9_code 35 = .ok (.getfield 13, 3) := by decide +kernel
theorem d_Y_place_38 : decode prog_8_method_9_code 38 = .ok (.iload_n 1, 1) := by decide +kernel
theorem d_Y_place_39 : decode prog_8_method_9_code 39 = .ok (.iconst (-1), 1) := by decide +kernel
theorem d_Y_place_40 : decode prog_8_method_9_code 40 = .ok (.iastore, 1) := by decide +kernel
theorem d_Y_place_41 : decode prog_8_method_9_code 41 = .ok (.aload_n 0, 1) := by decide +kernel
theorem d_Y_place_42 : decode prog_8_method_9_code 42 = .ok (.iload_n 1, 1) := by decide +kernel
theorem d_Y_place_43 : decode prog_8_method_9_code 43 = .ok (.invokevirtual 84, 3) := by decide +kernel
theorem d_Y_place_46 : decode prog_8_method_9_code 46 = .ok (.aload_n 0, 1) := by decide +kernel
theorem d_Y_place_47 : decode prog_8_method_9_code 47 = .ok (.iconst 0, 1) := by decide +kernel
theorem d_Y_place_48 : decode prog_8_method_9_code 48 = .ok (.putfield 74, 3) := by decide +kernel
theorem d_Y_place_51 : decode prog_8_method_9_code 51 = .ok (.iload_n 1, 1) := by decide +kernel
theorem d_Y_place_52 : decode prog_8_method_9_code 52 = .ok (.ireturn, 1) := by decide +kernel
theorem d_Y_evenOdds_0 : decode prog_8_method_8_code 0 = .ok (.iconst 0, 1) := by decide +kernel
theorem d_Y_evenOdds_1 : decode prog_8_method_8_code 1 = .ok (.istore_n 2, 1) := by decide +kernel
theorem d_Y_evenOdds_2 : decode prog_8_method_8_code 2 = .ok (.iload_n 2, 1) := by decide +kernel
theorem d_Y_evenOdds_3 : decode prog_8_method_8_code 3 = .ok (.sipush 128, 3) := by decide +kernel
theorem d_Y_evenOdds_6 : decode prog_8_method_8_code 6 = .ok (.if_icmp .ge 22, 3) := by decide +kernel
theorem d_Y_evenOdds_9 : decode prog_8_method_8_code 9 = .ok (.aload_n 0, 1) := by decide +kernel
theorem d_Y_evenOdds_10 : decode prog_8_method_8_code 10 = .ok (.getfield 16, 3) := by decide +kernel
theorem d_Y_evenOdds_13 : decode prog_8_method_8_code 13 = .ok (.sipush 128, 3) := by decide +kernel
theorem d_Y_evenOdds_16 : decode prog_8_method_8_code 16 = .ok (.iload_n 1, 1) := by decide +kernel
theorem d_Y_evenOdds_17 : decode prog_8_method_8_code 17 = .ok (.imul, 1) := by decide +kernel
theorem d_Y_evenOdds_18 : decode prog_8_method_8_code 18 = .ok (.iload_n 2, 1) := by decide +kernel
theorem d_Y_evenOdds_19 : decode prog_8_method_8_code 19 = .ok (.iadd, 1) := by decide +kernel
theorem d_Y_evenOdds_20 : decode prog_8_method_8_code 20 = .ok (.iconst 4, 1) := by decide +kernel
theorem d_Y_evenOdds_21 : decode prog_8_method_8_code 21 = .ok (.iastore, 1) := by decide +kernel
theorem d_Y_evenOdds_22 : decode prog_8_method_8_code 22 = .ok (.iinc 2 1, 3) := by decide +kernel
theorem d_Y_evenOdds_25 : decode prog_8_method_8_code 25 = .ok (.goto (-23), 3) := by decide +kernel
theorem d_Y_evenOdds_28 : decode prog_8_method_8_code 28 = .ok (.return_, 1) := by decide +kernel
theorem d_Y_arc_0 : decode prog_8_method_11_code 0 = .ok (.aload_n 0, 1) := by decide +kernel
theorem d_Y_arc_1 : decode prog_8_method_11_code 1 = .ok (.iload_n 1, 1) := by decide +kernel
theorem d_Y_arc_2 : decode prog_8_method_11_code 2 = .ok (.invokevirtual 77, 3) := by decide +kernel
theorem d_Y_arc_5 : decode prog_8_method_11_code 5 = .ok (.ifCond .eq 16, 3) := by decide +kernel
theorem d_Y_arc_8 : decode prog_8_method_11_code 8 = .ok (.aload_n 0, 1) := by decide +kernel
theorem d_Y_arc_9 : decode prog_8_method_11_code 9 = .ok (.iload_n 2, 1) := by decide +kernel
theorem d_Y_arc_10 : decode prog_8_method_11_code 10 = .ok (.invokevirtual 77, 3) := by decide +kernel
theorem d_Y_arc_13 : decode prog_8_method_11_code 13 = .ok (.ifCond .eq 8, 3) := by decide +kernel
theorem d_Y_arc_16 : decode prog_8_method_11_code 16 = .ok (.iload_n 1, 1) := by decide +kernel
theorem d_Y_arc_17 : decode prog_8_method_11_code 17 = .ok (.iload_n 2, 1) := by decide +kernel
theorem d_Y_arc_18 : decode prog_8_method_11_code 18 = .ok (.if_icmp .ne 6, 3) := by decide +kernel
theorem d_Y_arc_21 : decode prog_8_method_11_code 21 = .ok (.bipush (-2), 2) := by decide +kernel
theorem d_Y_arc_23 : decode prog_8_method_11_code 23 = .ok (.ireturn, 1) := by decide +kernel
theorem d_Y_arc_24 : decode prog_8_method_11_code 24 = .ok (.aload_n 0, 1) := by decide +kernel
theorem d_Y_arc_25 : decode prog_8_method_11_code 25 = .ok (.getfield 7, 3) := by decide +kernel
theorem d_Y_arc_28 : decode prog_8_method_11_code 28 = .ok (.iload_n 2, 1) := by decide +kernel
theorem d_Y_arc_29 : decode prog_8_method_11_code 29 = .ok (.iaload, 1) := by decide +kernel
theorem d_Y_arc_30 : decode prog_8_method_11_code 30 = .ok (.iload_n 1, 1) := by decide +kernel
theorem d_Y_arc_31 : decode prog_8_method_11_code 31 = .ok (.ishr, 1) := by decide +kernel
theorem d_Y_arc_32 : decode prog_8_method_11_code 32 = .ok (.iconst 1, 1) := by decide +kernel
theorem d_Y_arc_33 : decode prog_8_method_11_code 33 = .ok (.iand, 1) := by decide +kernel
theorem d_Y_arc_34 : decode prog_8_method_11_code 34 = .ok (.iconst 1, 1) := by decide +kernel
theorem d_Y_arc_35 : decode prog_8_method_11_code 35 = .ok (.if_icmp .eq 17, 3) := by decide +kernel
theorem d_Y_arc_38 : decode prog_8_method_11_code 38 = .ok (.aload_n 0, 1) := by decide +kernel
theorem d_Y_arc_39 : decode prog_8_method_11_code 39 = .ok (.getfield 7, 3) := by decide +kernel
theorem d_Y_arc_42 : decode prog_8_method_11_code 42 = .ok (.iload_n 1, 1) := by decide +kernel
theorem d_Y_arc_43 : decode prog_8_method_11_code 43 = .ok (.iaload, 1) := by decide +kernel
theorem d_Y_arc_44 : decode prog_8_method_11_code 44 = .ok (.iload_n 2, 1) := by decide +kernel
theorem d_Y_arc_45 : decode prog_8_method_11_code 45 = .ok (.ishr, 1) := by decide +kernel
theorem d_Y_arc_46 : decode prog_8_method_11_code 46 = .ok (.iconst 1, 1) := by decide +kernel
theorem d_Y_arc_47 : decode prog_8_method_11_code 47 = .ok (.iand, 1) := by decide +kernel
theorem d_Y_arc_48 : decode prog_8_method_11_code 48 = .ok (.iconst 1, 1) := by decide +kernel
theorem d_Y_arc_49 : decode prog_8_method_11_code 49 = .ok (.if_icmp .ne 6, 3) := by decide +kernel
theorem d_Y_arc_52 : decode prog_8_method_11_code 52 = .ok (.bipush (-4), 2) := by decide +kernel
theorem d_Y_arc_54 : decode prog_8_method_11_code 54 = .ok (.ireturn, 1) := by decide +kernel
theorem d_Y_arc_55 : decode prog_8_method_11_code 55 = .ok (.aload_n 0, 1) := by decide +kernel
theorem d_Y_arc_56 : decode prog_8_method_11_code 56 = .ok (.aload_n 0, 1) := by decide +kernel
theorem d_Y_arc_57 : decode prog_8_method_11_code 57 = .ok (.getfield 7, 3) := by decide +kernel
theorem d_Y_arc_60 : decode prog_8_method_11_code 60 = .ok (.iconst 1, 1) := by decide +kernel
theorem d_Y_arc_61 : decode prog_8_method_11_code 61 = .ok (.iload_n 1, 1) := by decide +kernel
theorem d_Y_arc_62 : decode prog_8_method_11_code 62 = .ok (.ishl, 1) := by decide +kernel
theorem d_Y_arc_63 : decode prog_8_method_11_code 63 = .ok (.invokevirtual 88, 3) := by decide +kernel
theorem d_Y_arc_66 : decode prog_8_method_11_code 66 = .ok (.iload_n 2, 1) := by decide +kernel
theorem d_Y_arc_67 : decode prog_8_method_11_code 67 = .ok (.ishr, 1) := by decide +kernel
theorem d_Y_arc_68 : decode prog_8_method_11_code 68 = .ok (.iconst 1, 1) := by decide +kernel
theorem d_Y_arc_69 : decode prog_8_method_11_code 69 = .ok (.iand, 1) := by decide +kernel
theorem d_Y_arc_70 : decode prog_8_method_11_code 70 = .ok (.iconst 1, 1) := by decide +kernel
theorem d_Y_arc_71 : decode prog_8_method_11_code 71 = .ok (.if_icmp .ne 6, 3) := by decide +kernel
theorem d_Y_arc_74 : decode prog_8_method_11_code 74 = .ok (.bipush (-5), 2) := by decide +kernel
theorem d_Y_arc_76 : decode prog_8_method_11_code 76 = .ok (.ireturn, 1) := by decide +kernel
theorem d_Y_arc_77 : decode prog_8_method_11_code 77 = .ok (.aload_n 0, 1) := by decide +kernel
theorem d_Y_arc_78 : decode prog_8_method_11_code 78 = .ok (.getfield 67, 3) := by decide +kernel
theorem d_Y_arc_81 : decode prog_8_method_11_code 81 = .ok (.bipush 10, 2) := by decide +kernel
theorem d_Y_arc_83 : decode prog_8_method_11_code 83 = .ok (.if_icmp .ne 6, 3) := by decide +kernel
theorem d_Y_arc_86 : decode prog_8_method_11_code 86 = .ok (.bipush (-3), 2) := by decide +kernel
theorem d_Y_arc_88 : decode prog_8_method_11_code 88 = .ok (.ireturn, 1) := by decide +kernel
theorem d_Y_arc_89 : decode prog_8_method_11_code 89 = .ok (.aload_n 0, 1) := by decide +kernel
theorem d_Y_arc_90 : decode prog_8_method_11_code 90 = .ok (.getfield 7, 3) := by decide +kernel
theorem d_Y_arc_93 : decode prog_8_method_11_code 93 = .ok (.iload_n 2, 1) := by decide +kernel
theorem d_Y_arc_94 : decode prog_8_method_11_code 94 = .ok (.dup2, 1) := by decide +kernel
theorem d_Y_arc_95 : decode prog_8_method_11_code 95 = .ok (.iaload, 1) := by decide +kernel
theorem d_Y_arc_96 : decode prog_8_method_11_code 96 = .ok (.iconst 1, 1) := by decide +kernel
theorem d_Y_arc_97 : decode prog_8_method_11_code 97 = .ok (.iload_n 1, 1) := by decide +kernel
theorem d_Y_arc_98 : decode prog_8_method_11_code 98 = .ok (.ishl, 1) := by decide +kernel
theorem d_Y_arc_99 : decode prog_8_method_11_code 99 = .ok (.ior, 1) := by decide +kernel
theorem d_Y_arc_100 : decode prog_8_method_11_code 100 = .ok (.iastore, 1) := by decide +kernel
theorem d_Y_arc_101 : decode prog_8_method_11_code 101 = .ok (.aload_n 0, 1) := by decide +kernel
theorem d_Y_arc_102 : decode prog_8_method_11_code 102 = .ok (.iload_n 2, 1) := by decide +kernel
theorem d_Y_arc_103 : decode prog_8_method_11_code 103 = .ok (.invokevirtual 84, 3) := by decide +kernel
theorem d_Y_arc_106 : decode prog_8_method_11_code 106 = .ok (.aload_n 0, 1) := by decide +kernel
theorem d_Y_arc_107 : decode prog_8_method_11_code 107 = .ok (.dup, 1) := by decide +kernel
theorem d_Y_arc_108 : decode prog_8_method_11_code 108 = .ok (.getfield 67, 3) := by decide +kernel
theorem d_Y_arc_111 : decode prog_8_method_11_code 111 = .ok (.iconst 1, 1) := by decide +kernel
theorem d_Y_arc_112 : decode prog_8_method_11_code 112 = .ok (.iadd, 1) := by decide +kernel
theorem d_Y_arc_113 : decode prog_8_method_11_code 113 = .ok (.putfield 67, 3) := by decide +kernel
theorem d_Y_arc_116 : decode prog_8_method_11_code 116 = .ok (.aload_n 0, 1) := by decide +kernel
theorem d_Y_arc_117 : decode prog_8_method_11_code 117 = .ok (.iconst 0, 1) := by decide +kernel
theorem d_Y_arc_118 : decode prog_8_method_11_code 118 = .ok (.putfield 74, 3) := by decide +kernel
theorem d_Y_arc_121 : decode prog_8_method_11_code 121 = .ok (.aload_n 0, 1) := by decide +kernel
theorem d_Y_arc_122 : decode prog_8_method_11_code 122 = .ok (.getfield 67, 3) := by decide +kernel
theorem d_Y_arc_125 : decode prog_8_method_11_code 125 = .ok (.ireturn, 1) := by decide +kernel
theorem d_Y_isPlace_0 : decode prog_8_method_4_code 0 = .ok (.iload_n 1, 1) := by decide +kernel
theorem d_Y_isPlace_1 : decode prog_8_method_4_code 1 = .ok (.ifCond .lt 15, 3) := by decide +kernel
theorem d_Y_isPlace_4 : decode prog_8_method_4_code 4 = .ok (.iload_n 1, 1) := by decide +kernel
theorem d_Y_isPlace_5 : decode prog_8_method_4_code 5 = .ok (.aload_n 0, 1) := by decide +kernel
theorem d_Y_isPlace_6 : decode prog_8_method_4_code 6 = .ok (.getfield 63, 3) := by decide +kernel
theorem d_Y_isPlace_9 : decode prog_8_method_4_code 9 = .ok (.if_icmp .ge 7, 3) := by decide +kernel
theorem d_Y_isPlace_12 : decode prog_8_method_4_code 12 = .ok (.iconst 1, 1) := by decide +kernel
theorem d_Y_isPlace_13 : decode prog_8_method_4_code 13 = .ok (.goto 4, 3) := by decide +kernel
theorem d_Y_isPlace_16 : decode prog_8_method_4_code 16 = .ok (.iconst 0, 1) := by decide +kernel
theorem d_Y_isPlace_17 : decode prog_8_method_4_code 17 = .ok (.ireturn, 1) := by decide +kernel
theorem d_Y_aboveOf_0 : decode prog_8_method_10_code 0 = .ok (.iload_n 2, 1) := by decide +kernel
theorem d_Y_aboveOf_1 : decode prog_8_method_10_code 1 = .ok (.istore_n 3, 1) := by decide +kernel
theorem d_Y_aboveOf_2 : decode prog_8_method_10_code 2 = .ok (.iconst (-1), 1) := by decide +kernel
theorem d_Y_aboveOf_3 : decode prog_8_method_10_code 3 = .ok (.istore 4, 2) := by decide +kernel
theorem d_Y_aboveOf_5 : decode prog_8_method_10_code 5 = .ok (.iload_n 3, 1) := by decide +kernel
theorem d_Y_aboveOf_6 : decode prog_8_method_10_code 6 = .ok (.iload 4, 2) := by decide +kernel
theorem d_Y_aboveOf_8 : decode prog_8_method_10_code 8 = .ok (.if_icmp .eq 46, 3) := by decide +kernel
theorem d_Y_aboveOf_11 : decode prog_8_method_10_code 11 = .ok (.iload_n 3, 1) := by decide +kernel
theorem d_Y_aboveOf_12 : decode prog_8_method_10_code 12 = .ok (.istore 4, 2) := by decide +kernel
theorem d_Y_aboveOf_14 : decode prog_8_method_10_code 14 = .ok (.iconst 0, 1) := by decide +kernel
theorem d_Y_aboveOf_15 : decode prog_8_method_10_code 15 = .ok (.istore 5, 2) := by decide +kernel
theorem d_Y_aboveOf_17 : decode prog_8_method_10_code 17 = .ok (.iload_n 3, 1) := by decide +kernel
theorem d_Y_aboveOf_18 : decode prog_8_method_10_code 18 = .ok (.iload 5, 2) := by decide +kernel
theorem d_Y_aboveOf_20 : decode prog_8_method_10_code 20 = .ok (.ishr, 1) := by decide +kernel
theorem d_Y_aboveOf_21 : decode prog_8_method_10_code 21 = .ok (.ifCond .eq 30, 3) := by decide +kernel
theorem d_Y_aboveOf_24 : decode prog_8_method_10_code 24 = .ok (.iload_n 3, 1) := by decide +kernel
theorem d_Y_aboveOf_25 : decode prog_8_method_10_code 25 = .ok (.iload_n 3, 1) := by decide +kernel
theorem d_Y_aboveOf_26 : decode prog_8_method_10_code 26 = .ok (.iload 5, 2) := by decide +kernel
theorem d_Y_aboveOf_28 : decode prog_8_method_10_code 28 = .ok (.ishr, 1) := by decide +kernel
theorem d_Y_aboveOf_29 : decode prog_8_method_10_code 29 = .ok (.iconst 1, 1) := by decide +kernel
theorem d_Y_aboveOf_30 : decode prog_8_method_10_code 30 = .ok (.iand, 1) := by decide +kernel
theorem d_Y_aboveOf_31 : decode prog_8_method_10_code 31 = .ok (.iconst 1, 1) := by decide +kernel
theorem d_Y_aboveOf_32 : decode prog_8_method_10_code 32 = .ok (.if_icmp .ne 10, 3) := by decide +kernel
theorem d_Y_aboveOf_35 : decode prog_8_method_10_code 35 = .ok (.aload_n 1, 1) := by decide +kernel
theorem d_Y_aboveOf_36 : decode prog_8_method_10_code 36 = .ok (.iload 5, 2) := by decide +kernel
theorem d_Y_aboveOf_38 : decode prog_8_method_10_code 38 = .ok (.iaload, 1) := by decide +kernel
theorem d_Y_aboveOf_39 : decode prog_8_method_10_code 39 = .ok (.goto 4, 3) := by decide +kernel
theorem d_Y_aboveOf_42 : decode prog_8_method_10_code 42 = .ok (.iconst 0, 1) := by decide +kernel
theorem d_Y_aboveOf_43 : decode prog_8_method_10_code 43 = .ok (.ior, 1) := by decide +kernel
theorem d_Y_aboveOf_44 : decode prog_8_method_10_code 44 = .ok (.istore_n 3, 1) := by decide +kernel
theorem d_Y_aboveOf_45 : decode prog_8_method_10_code 45 = .ok (.iinc 5 1, 3) := by decide +kernel
theorem d_Y_aboveOf_48 : decode prog_8_method_10_code 48 = .ok (.goto (-31), 3) := by decide +kernel
theorem d_Y_aboveOf_51 : decode prog_8_method_10_code 51 = .ok (.goto (-46), 3) := by decide +kernel
theorem d_Y_aboveOf_54 : decode prog_8_method_10_code 54 = .ok (.iload_n 3, 1) := by decide +kernel
theorem d_Y_aboveOf_55 : decode prog_8_method_10_code 55 = .ok (.ireturn, 1) := by decide +kernel
theorem d_Y_cut_0 : decode prog_8_method_13_code 0 = .ok (.aload_n 0, 1) := by decide +kernel
theorem d_Y_cut_1 : decode prog_8_method_13_code 1 = .ok (.iload_n 1, 1) := by decide +kernel
theorem d_Y_cut_2 : decode prog_8_method_13_code 2 = .ok (.invokevirtual 77, 3) := by decide +kernel
theorem d_Y_cut_5 : decode prog_8_method_13_code 5 = .ok (.ifCond .eq 16, 3) := by decide +kernel
theorem d_Y_cut_8 : decode prog_8_method_13_code 8 = .ok (.aload_n 0, 1) := by decide +kernel
theorem d_Y_cut_9 : decode prog_8_method_13_code 9 = .ok (.iload_n 2, 1) := by decide +kernel
theorem d_Y_cut_10 : decode prog_8_method_13_code 10 = .ok (.invokevirtual 77, 3) := by decide +kernel
theorem d_Y_cut_13 : decode prog_8_method_13_code 13 = .ok (.ifCond .eq 8, 3) := by decide +kernel
theorem d_Y_cut_16 : decode prog_8_method_13_code 16 = .ok (.iload_n 1, 1) := by decide +kernel
theorem d_Y_cut_17 : decode prog_8_method_13_code 17 = .ok (.iload_n 2, 1) := by decide +kernel
theorem d_Y_cut_18 : decode prog_8_method_13_code 18 = .ok (.if_icmp .ne 6, 3) := by decide +kernel
theorem d_Y_cut_21 : decode prog_8_method_13_code 21 = .ok (.bipush (-2), 2) := by decide +kernel
theorem d_Y_cut_23 : decode prog_8_method_13_code 23 = .ok (.ireturn, 1) := by decide +kernel
theorem d_Y_cut_24 : decode prog_8_method_13_code 24 = .ok (.aload_n 0, 1) := by decide +kernel
theorem d_Y_cut_25 : decode prog_8_method_13_code 25 = .ok (.iload_n 1, 1) := by decide +kernel
theorem d_Y_cut_26 : decode prog_8_method_13_code 26 = .ok (.iload_n 2, 1) := by decide +kernel
theorem d_Y_cut_27 : decode prog_8_method_13_code 27 = .ok (.invokevirtual 92, 3) := by decide +kernel
theorem d_Y_cut_30 : decode prog_8_method_13_code 30 = .ok (.ifCond .ne 5, 3) := by decide +kernel
theorem d_Y_cut_33 : decode prog_8_method_13_code 33 = .ok (.iconst (-1), 1) := by decide +kernel
theorem d_Y_cut_34 : decode prog_8_method_13_code 34 = .ok (.ireturn, 1) := by decide +kernel
theorem d_Y_cut_35 : decode prog_8_method_13_code 35 = .ok (.aload_n 0, 1) := by decide +kernel
theorem d_Y_cut_36 : decode prog_8_method_13_code 36 = .ok (.getfield 7, 3) := by decide +kernel
theorem d_Y_cut_39 : decode prog_8_method_13_code 39 = .ok (.iload_n 2, 1) := by decide +kernel
theorem d_Y_cut_40 : decode prog_8_method_13_code 40 = .ok (.dup2, 1) := by decide +kernel
theorem d_Y_cut_41 : decode prog_8_method_13_code 41 = .ok (.iaload, 1) := by decide +kernel
theorem d_Y_cut_42 : decode prog_8_method_13_code 42 = .ok (.iconst 1, 1) := by decide +kernel
theorem d_Y_cut_43 : decode prog_8_method_13_code 43 = .ok (.iload_n 1, 1) := by decide +kernel
theorem d_Y_cut_44 : decode prog_8_method_13_code 44 = .ok (.ishl, 1) := by decide +kernel
theorem d_Y_cut_45 : decode prog_8_method_13_code 45 = .ok (.iconst (-1), 1) := by decide +kernel
theorem d_Y_cut_46 : decode prog_8_method_13_code 46 = .ok (.ixor, 1) := by decide +kernel
theorem d_Y_cut_47 : decode prog_8_method_13_code 47 = .ok (.iand, 1) := by decide +kernel
theorem d_Y_cut_48 : decode prog_8_method_13_code 48 = .ok (.iastore, 1) := by decide +kernel
theorem d_Y_cut_49 : decode prog_8_method_13_code 49 = .ok (.aload_n 0, 1) := by decide +kernel
theorem d_Y_cut_50 : decode prog_8_method_13_code 50 = .ok (.iload_n 2, 1) := by decide +kernel
theorem d_Y_cut_51 : decode prog_8_method_13_code 51 = .ok (.invokevirtual 84, 3) := by decide +kernel
theorem d_Y_cut_54 : decode prog_8_method_13_code 54 = .ok (.aload_n 0, 1) := by decide +kernel
theorem d_Y_cut_55 : decode prog_8_method_13_code 55 = .ok (.dup, 1) := by decide +kernel
theorem d_Y_cut_56 : decode prog_8_method_13_code 56 = .ok (.getfield 67, 3) := by decide +kernel
theorem d_Y_cut_59 : decode prog_8_method_13_code 59 = .ok (.iconst 1, 1) := by decide +kernel
theorem d_Y_cut_60 : decode prog_8_method_13_code 60 = .ok (.isub, 1) := by decide +kernel
theorem d_Y_cut_61 : decode prog_8_method_13_code 61 = .ok (.putfield 67, 3) := by decide +kernel
theorem d_Y_cut_64 : decode prog_8_method_13_code 64 = .ok (.aload_n 0, 1) := by decide +kernel
theorem d_Y_cut_65 : decode prog_8_method_13_code 65 = .ok (.iconst 0, 1) := by decide +kernel
theorem d_Y_cut_66 : decode prog_8_method_13_code 66 = .ok (.putfield 74, 3) := by decide +kernel
theorem d_Y_cut_69 : decode prog_8_method_13_code 69 = .ok (.aload_n 0, 1) := by decide +kernel
theorem d_Y_cut_70 : decode prog_8_method_13_code 70 = .ok (.getfield 67, 3) := by decide +kernel
theorem d_Y_cut_73 : decode prog_8_method_13_code 73 = .ok (.ireturn, 1) := by decide +kernel
theorem d_Y_isArc_0 : decode prog_8_method_12_code 0 = .ok (.aload_n 0, 1) := by decide +kernel
theorem d_Y_isArc_1 : decode prog_8_method_12_code 1 = .ok (.getfield 7, 3) := by decide +kernel
theorem d_Y_isArc_4 : decode prog_8_method_12_code 4 = .ok (.iload_n 2, 1) := by decide +kernel
theorem d_Y_isArc_5 : decode prog_8_method_12_code 5 = .ok (.iaload, 1) := by decide +kernel
theorem d_Y_isArc_6 : decode prog_8_method_12_code 6 = .ok (.iload_n 1, 1) := by decide +kernel
theorem d_Y_isArc_7 : decode prog_8_method_12_code 7 = .ok (.ishr, 1) := by decide +kernel
theorem d_Y_isArc_8 : decode prog_8_method_12_code 8 = .ok (.iconst 1, 1) := by decide +kernel
theorem d_Y_isArc_9 : decode prog_8_method_12_code 9 = .ok (.iand, 1) := by decide +kernel
theorem d_Y_isArc_10 : decode prog_8_method_12_code 10 = .ok (.iconst 1, 1) := by decide +kernel
theorem d_Y_isArc_11 : decode prog_8_method_12_code 11 = .ok (.if_icmp .ne 7, 3) := by decide +kernel
theorem d_Y_isArc_14 : decode prog_8_method_12_code 14 = .ok (.iconst 1, 1) := by decide +kernel
theorem d_Y_isArc_15 : decode prog_8_method_12_code 15 = .ok (.goto 4, 3) := by decide +kernel
theorem d_Y_isArc_18 : decode prog_8_method_12_code 18 = .ok (.iconst 0, 1) := by decide +kernel
theorem d_Y_isArc_19 : decode prog_8_method_12_code 19 = .ok (.ireturn, 1) := by decide +kernel
theorem d_Y_odds_0 : decode prog_8_method_15_code 0 = .ok (.aload_n 0, 1) := by decide +kernel
theorem d_Y_odds_1 : decode prog_8_method_15_code 1 = .ok (.iload_n 1, 1) := by decide +kernel
theorem d_Y_odds_2 : decode prog_8_method_15_code 2 = .ok (.iload_n 2, 1) := by decide +kernel
theorem d_Y_odds_3 : decode prog_8_method_15_code 3 = .ok (.invokevirtual 100, 3) := by decide +kernel
theorem d_Y_odds_6 : decode prog_8_method_15_code 6 = .ok (.ifCond .eq 13, 3) := by decide +kernel
theorem d_Y_odds_9 : decode prog_8_method_15_code 9 = .ok (.iload_n 3, 1) := by decide +kernel
theorem d_Y_odds_10 : decode prog_8_method_15_code 10 = .ok (.ifCond .lt 9, 3) := by decide +kernel
theorem d_Y_odds_13 : decode prog_8_method_15_code 13 = .ok (.iload_n 3, 1) := by decide +kernel
theorem d_Y_odds_14 : decode prog_8_method_15_code 14 = .ok (.bipush 8, 2) := by decide +kernel
theorem d_Y_odds_16 : decode prog_8_method_15_code 16 = .ok (.if_icmp .le 6, 3) := by decide +kernel
theorem d_Y_odds_19 : decode prog_8_method_15_code 19 = .ok (.bipush (-2), 2) := by decide +kernel
theorem d_Y_odds_21 : decode prog_8_method_15_code 21 = .ok (.ireturn, 1) := by decide +kernel
theorem d_Y_odds_22 : decode prog_8_method_15_code 22 = .ok (.aload_n 0, 1) := by decide +kernel
theorem d_Y_odds_23 : decode prog_8_method_15_code 23 = .ok (.getfield 16, 3) := by decide +kernel
theorem d_Y_odds_26 : decode prog_8_method_15_code 26 = .ok (.sipush 128, 3) := by decide +kernel
theorem d_Y_odds_29 : decode prog_8_method_15_code 29 = .ok (.iload_n 1, 1) := by decide +kernel
theorem d_Y_odds_30 : decode prog_8_method_15_code 30 = .ok (.imul, 1) := by decide +kernel
theorem d_Y_odds_31 : decode prog_8_method_15_code 31 = .ok (.iload_n 2, 1) := by decide +kernel
theorem d_Y_odds_32 : decode prog_8_method_15_code 32 = .ok (.iadd, 1) := by decide +kernel
theorem d_Y_odds_33 : decode prog_8_method_15_code 33 = .ok (.iaload, 1) := by decide +kernel
theorem d_Y_odds_34 : decode prog_8_method_15_code 34 = .ok (.istore 4, 2) := by decide +kernel
theorem d_Y_odds_36 : decode prog_8_method_15_code 36 = .ok (.aload_n 0, 1) := by decide +kernel
theorem d_Y_odds_37 : decode prog_8_method_15_code 37 = .ok (.getfield 16, 3) := by decide +kernel
theorem d_Y_odds_40 : decode prog_8_method_15_code 40 = .ok (.sipush 128, 3) := by decide +kernel
theorem d_Y_odds_43 : decode prog_8_method_15_code 43 = .ok (.iload_n 1, 1) := by decide +kernel
theorem d_Y_odds_44 : decode prog_8_method_15_code 44 = .ok (.imul, 1) := by decide +kernel
theorem d_Y_odds_45 : decode prog_8_method_15_code 45 = .ok (.iload_n 2, 1) := by decide +kernel
theorem d_Y_odds_46 : decode prog_8_method_15_code 46 = .ok (.iadd, 1) := by decide +kernel
theorem d_Y_odds_47 : decode prog_8_method_15_code 47 = .ok (.iload_n 3, 1) := by decide +kernel
theorem d_Y_odds_48 : decode prog_8_method_15_code 48 = .ok (.iastore, 1) := by decide +kernel
theorem d_Y_odds_49 : decode prog_8_method_15_code 49 = .ok (.iload 4, 2) := by decide +kernel
theorem d_Y_odds_51 : decode prog_8_method_15_code 51 = .ok (.ireturn, 1) := by decide +kernel
theorem d_Y_isRow_0 : decode prog_8_method_14_code 0 = .ok (.aload_n 0, 1) := by decide +kernel
theorem d_Y_isRow_1 : decode prog_8_method_14_code 1 = .ok (.iload_n 1, 1) := by decide +kernel
theorem d_Y_isRow_2 : decode prog_8_method_14_code 2 = .ok (.invokevirtual 77, 3) := by decide +kernel
theorem d_Y_isRow_5 : decode prog_8_method_14_code 5 = .ok (.ifCond .eq 26, 3) := by decide +kernel
theorem d_Y_isRow_8 : decode prog_8_method_14_code 8 = .ok (.iload_n 2, 1) := by decide +kernel
theorem d_Y_isRow_9 : decode prog_8_method_14_code 9 = .ok (.ifCond .lt 22, 3) := by decide +kernel
theorem d_Y_isRow_12 : decode prog_8_method_14_code 12 = .ok (.iload_n 2, 1) := by decide +kernel
theorem d_Y_isRow_13 : decode prog_8_method_14_code 13 = .ok (.iconst 1, 1) := by decide +kernel
theorem d_Y_isRow_14 : decode prog_8_method_14_code 14 = .ok (.aload_n 0, 1) := by decide +kernel
theorem d_Y_isRow_15 : decode prog_8_method_14_code 15 = .ok (.getfield 7, 3) := by decide +kernel
theorem d_Y_isRow_18 : decode prog_8_method_14_code 18 = .ok (.iload_n 1, 1) := by decide +kernel
theorem d_Y_isRow_19 : decode prog_8_method_14_code 19 = .ok (.iaload, 1) := by decide +kernel
theorem d_Y_isRow_20 : decode prog_8_method_14_code 20 = .ok (.invokestatic 96, 3) := by decide +kernel
theorem d_Y_isRow_23 : decode prog_8_method_14_code 23 = .ok (.ishl, 1) := by decide +kernel
theorem d_Y_isRow_24 : decode prog_8_method_14_code 24 = .ok (.if_icmp .ge 7, 3) := by decide +kernel
theorem d_Y_isRow_27 : decode prog_8_method_14_code 27 = .ok (.iconst 1, 1) := by decide +kernel
theorem d_Y_isRow_28 : decode prog_8_method_14_code 28 = .ok (.goto 4, 3) := by decide +kernel
theorem d_Y_isRow_31 : decode prog_8_method_14_code 31 = .ok (.iconst 0, 1) := by decide +kernel
theorem d_Y_isRow_32 : decode prog_8_method_14_code 32 = .ok (.ireturn, 1) := by decide +kernel
theorem d_Y_many_0 : decode prog_8_method_7_code 0 = .ok (.iconst 0, 1) := by decide +kernel
theorem d_Y_many_1 : decode prog_8_method_7_code 1 = .ok (.istore_n 1, 1) := by decide +kernel
theorem d_Y_many_2 : decode prog_8_method_7_code 2 = .ok (.iload_n 0, 1) := by decide +kernel
theorem d_Y_many_3 : decode prog_8_method_7_code 3 = .ok (.istore_n 2, 1) := by decide +kernel
theorem d_Y_many_4 : decode prog_8_method_7_code 4 = .ok (.iload_n 2, 1) := by decide +kernel
theorem d_Y_many_5 : decode prog_8_method_7_code 5 = .ok (.ifCond .eq 15, 3) := by decide +kernel
theorem d_Y_many_8 : decode prog_8_method_7_code 8 = .ok (.iinc 1 1, 3) := by decide +kernel
theorem d_Y_many_11 : decode prog_8_method_7_code 11 = .ok (.iload_n 2, 1) := by decide +kernel
theorem d_Y_many_12 : decode prog_8_method_7_code 12 = .ok (.iload_n 2, 1) := by decide +kernel
theorem d_Y_many_13 : decode prog_8_method_7_code 13 = .ok (.iconst 1, 1) := by decide +kernel
theorem d_Y_many_14 : decode prog_8_method_7_code 14 = .ok (.isub, 1) := by decide +kernel
theorem d_Y_many_15 : decode prog_8_method_7_code 15 = .ok (.iand, 1) := by decide +kernel
theorem d_Y_many_16 : decode prog_8_method_7_code 16 = .ok (.istore_n 2, 1) := by decide +kernel
theorem d_Y_many_17 : decode prog_8_method_7_code 17 = .ok (.goto (-13), 3) := by decide +kernel
theorem d_Y_many_20 : decode prog_8_method_7_code 20 = .ok (.iload_n 1, 1) := by decide +kernel
theorem d_Y_many_21 : decode prog_8_method_7_code 21 = .ok (.ireturn, 1) := by decide +kernel
theorem d_Y_hold_0 : decode prog_8_method_16_code 0 = .ok (.aload_n 0, 1) := by decide +kernel
theorem d_Y_hold_1 : decode prog_8_method_16_code 1 = .ok (.iload_n 1, 1) := by decide +kernel
theorem d_Y_hold_2 : decode prog_8_method_16_code 2 = .ok (.invokevirtual 77, 3) := by decide +kernel
theorem d_Y_hold_5 : decode prog_8_method_16_code 5 = .ok (.ifCond .eq 13, 3) := by decide +kernel
theorem d_Y_hold_8 : decode prog_8_method_16_code 8 = .ok (.iload_n 2, 1) := by decide +kernel
theorem d_Y_hold_9 : decode prog_8_method_16_code 9 = .ok (.iconst (-1), 1) := by decide +kernel
theorem d_Y_hold_10 : decode prog_8_method_16_code 10 = .ok (.if_icmp .lt 8, 3) := by decide +kernel
theorem d_Y_hold_13 : decode prog_8_method_16_code 13 = .ok (.iload_n 2, 1) := by decide +kernel
theorem d_Y_hold_14 : decode prog_8_method_16_code 14 = .ok (.iconst 1, 1) := by decide +kernel
theorem d_Y_hold_15 : decode prog_8_method_16_code 15 = .ok (.if_icmp .le 6, 3) := by decide +kernel
theorem d_Y_hold_18 : decode prog_8_method_16_code 18 = .ok (.bipush (-2), 2) := by decide +kernel
theorem d_Y_hold_20 : decode prog_8_method_16_code 20 = .ok (.ireturn, 1) := by decide +kernel
theorem d_Y_hold_21 : decode prog_8_method_16_code 21 = .ok (.aload_n 0, 1) := by decide +kernel
theorem d_Y_hold_22 : decode prog_8_method_16_code 22 = .ok (.getfield 13, 3) := by decide +kernel
theorem d_Y_hold_25 : decode prog_8_method_16_code 25 = .ok (.iload_n 1, 1) := by decide +kernel
theorem d_Y_hold_26 : decode prog_8_method_16_code 26 = .ok (.iaload, 1) := by decide +kernel
theorem d_Y_hold_27 : decode prog_8_method_16_code 27 = .ok (.istore_n 3, 1) := by decide +kernel
theorem d_Y_hold_28 : decode prog_8_method_16_code 28 = .ok (.aload_n 0, 1) := by decide +kernel
theorem d_Y_hold_29 : decode prog_8_method_16_code 29 = .ok (.getfield 13, 3) := by decide +kernel
theorem d_Y_hold_32 : decode prog_8_method_16_code 32 = .ok (.iload_n 1, 1) := by decide +kernel
theorem d_Y_hold_33 : decode prog_8_method_16_code 33 = .ok (.iload_n 2, 1) := by decide +kernel
theorem d_Y_hold_34 : decode prog_8_method_16_code 34 = .ok (.iastore, 1) := by decide +kernel
theorem d_Y_hold_35 : decode prog_8_method_16_code 35 = .ok (.iload_n 3, 1) := by decide +kernel
theorem d_Y_hold_36 : decode prog_8_method_16_code 36 = .ok (.ireturn, 1) := by decide +kernel
theorem d_Y_told_0 : decode prog_8_method_17_code 0 = .ok (.aload_n 0, 1) := by decide +kernel
theorem d_Y_told_1 : decode prog_8_method_17_code 1 = .ok (.iload_n 1, 1) := by decide +kernel
theorem d_Y_told_2 : decode prog_8_method_17_code 2 = .ok (.iload_n 2, 1) := by decide +kernel
theorem d_Y_told_3 : decode prog_8_method_17_code 3 = .ok (.invokevirtual 100, 3) := by decide +kernel
theorem d_Y_told_6 : decode prog_8_method_17_code 6 = .ok (.ifCond .eq 18, 3) := by decide +kernel
theorem d_Y_told_9 : decode prog_8_method_17_code 9 = .ok (.aload_n 0, 1) := by decide +kernel
theorem d_Y_told_10 : decode prog_8_method_17_code 10 = .ok (.getfield 16, 3) := by decide +kernel
theorem d_Y_told_13 : decode prog_8_method_17_code 13 = .ok (.sipush 128, 3) := by decide +kernel
theorem d_Y_told_16 : decode prog_8_method_17_code 16 = .ok (.iload_n 1, 1) := by decide +kernel
theorem d_Y_told_17 : decode prog_8_method_17_code 17 = .ok (.imul, 1) := by decide +kernel
theorem d_Y_told_18 : decode prog_8_method_17_code 18 = .ok (.iload_n 2, 1) := by decide +kernel
theorem d_Y_told_19 : decode prog_8_method_17_code 19 = .ok (.iadd, 1) := by decide +kernel
theorem d_Y_told_20 : decode prog_8_method_17_code 20 = .ok (.iaload, 1) := by decide +kernel
theorem d_Y_told_21 : decode prog_8_method_17_code 21 = .ok (.goto 5, 3) := by decide +kernel
theorem d_Y_told_24 : decode prog_8_method_17_code 24 = .ok (.bipush (-2), 2) := by decide +kernel
theorem d_Y_told_26 : decode prog_8_method_17_code 26 = .ok (.ireturn, 1) := by decide +kernel
theorem d_Y_of_0 : decode prog_8_method_20_code 0 = .ok (.aload_n 0, 1) := by decide +kernel
theorem d_Y_of_1 : decode prog_8_method_20_code 1 = .ok (.iload_n 1, 1) := by decide +kernel
theorem d_Y_of_2 : decode prog_8_method_20_code 2 = .ok (.invokevirtual 77, 3) := by decide +kernel
theorem d_Y_of_5 : decode prog_8_method_20_code 5 = .ok (.ifCond .eq 12, 3) := by decide +kernel
theorem d_Y_of_8 : decode prog_8_method_20_code 8 = .ok (.iload_n 2, 1) := by decide +kernel
theorem d_Y_of_9 : decode prog_8_method_20_code 9 = .ok (.ifCond .lt 8, 3) := by decide +kernel
theorem d_Y_of_12 : decode prog_8_method_20_code 12 = .ok (.iload_n 2, 1) := by decide +kernel
theorem d_Y_of_13 : decode prog_8_method_20_code 13 = .ok (.iconst 4, 1) := by decide +kernel
theorem d_Y_of_14 : decode prog_8_method_20_code 14 = .ok (.if_icmp .le 6, 3) := by decide +kernel
theorem d_Y_of_17 : decode prog_8_method_20_code 17 = .ok (.bipush (-2), 2) := by decide +kernel
theorem d_Y_of_19 : decode prog_8_method_20_code 19 = .ok (.ireturn, 1) := by decide +kernel
theorem d_Y_of_20 : decode prog_8_method_20_code 20 = .ok (.iload_n 2, 1) := by decide +kernel
theorem d_Y_of_21 : decode prog_8_method_20_code 21 = .ok (.ifCond .ne 10, 3) := by decide +kernel
theorem d_Y_of_24 : decode prog_8_method_20_code 24 = .ok (.aload_n 0, 1) := by decide +kernel
theorem d_Y_of_25 : decode prog_8_method_20_code 25 = .ok (.getfield 7, 3) := by decide +kernel
theorem d_Y_of_28 : decode prog_8_method_20_code 28 = .ok (.iload_n 1, 1) := by decide +kernel
theorem d_Y_of_29 : decode prog_8_method_20_code 29 = .ok (.iaload, 1) := by decide +kernel
theorem d_Y_of_30 : decode prog_8_method_20_code 30 = .ok (.ireturn, 1) := by decide +kernel
theorem d_Y_of_31 : decode prog_8_method_20_code 31 = .ok (.iload_n 2, 1) := by decide +kernel
theorem d_Y_of_32 : decode prog_8_method_20_code 32 = .ok (.iconst 1, 1) := by decide +kernel
theorem d_Y_of_33 : decode prog_8_method_20_code 33 = .ok (.if_icmp .ne 46, 3) := by decide +kernel
theorem d_Y_of_36 : decode prog_8_method_20_code 36 = .ok (.iconst 0, 1) := by decide +kernel
theorem d_Y_of_37 : decode prog_8_method_20_code 37 = .ok (.istore_n 3, 1) := by decide +kernel
theorem d_Y_of_38 : decode prog_8_method_20_code 38 = .ok (.iconst 0, 1) := by decide +kernel
theorem d_Y_of_39 : decode prog_8_method_20_code 39 = .ok (.istore 4, 2) := by decide +kernel
theorem d_Y_of_41 : decode prog_8_method_20_code 41 = .ok (.iload 4, 2) := by decide +kernel
theorem d_Y_of_43 : decode prog_8_method_20_code 43 = .ok (.aload_n 0, 1) := by decide +kernel
theorem d_Y_of_44 : decode prog_8_method_20_code 44 = .ok (.getfield 63, 3) := by decide +kernel
theorem d_Y_of_47 : decode prog_8_method_20_code 47 = .ok (.if_icmp .ge 30, 3) := by decide +kernel
theorem d_Y_of_50 : decode prog_8_method_20_code 50 = .ok (.iload_n 3, 1) := by decide +kernel
theorem d_Y_of_51 : decode prog_8_method_20_code 51 = .ok (.aload_n 0, 1) := by decide +kernel
theorem d_Y_of_52 : decode prog_8_method_20_code 52 = .ok (.iload_n 1, 1) := by decide +kernel
theorem d_Y_of_53 : decode prog_8_method_20_code 53 = .ok (.iload 4, 2) := by decide +kernel
theorem d_Y_of_55 : decode prog_8_method_20_code 55 = .ok (.invokevirtual 92, 3) := by decide +kernel
theorem d_Y_of_58 : decode prog_8_method_20_code 58 = .ok (.ifCond .eq 10, 3) := by decide +kernel
theorem d_Y_of_61 : decode prog_8_method_20_code 61 = .ok (.iconst 1, 1) := by decide +kernel
theorem d_Y_of_62 : decode prog_8_method_20_code 62 = .ok (.iload 4, 2) := by decide +kernel
theorem d_Y_of_64 : decode prog_8_method_20_code 64 = .ok (.ishl, 1) := by decide +kernel
theorem d_Y_of_65 : decode prog_8_method_20_code 65 = .ok (.goto 4, 3) := by decide +kernel
theorem d_Y_of_68 : decode prog_8_method_20_code 68 = .ok (.iconst 0, 1) := by decide +kernel
theorem d_Y_of_69 : decode prog_8_method_20_code 69 = .ok (.ior, 1) := by decide +kernel
theorem d_Y_of_70 : decode prog_8_method_20_code 70 = .ok (.istore_n 3, 1) := by decide +kernel
theorem d_Y_of_71 : decode prog_8_method_20_code 71 = .ok (.iinc 4 1, 3) := by decide +kernel
theorem d_Y_of_74 : decode prog_8_method_20_code 74 = .ok (.goto (-33), 3) := by decide +kernel
theorem d_Y_of_77 : decode prog_8_method_20_code 77 = .ok (.iload_n 3, 1) := by decide +kernel
theorem d_Y_of_78 : decode prog_8_method_20_code 78 = .ok (.ireturn, 1) := by decide +kernel
theorem d_Y_of_79 : decode prog_8_method_20_code 79 = .ok (.iload_n 2, 1) := by decide +kernel
theorem d_Y_of_80 : decode prog_8_method_20_code 80 = .ok (.iconst 2, 1) := by decide +kernel
theorem d_Y_of_81 : decode prog_8_method_20_code 81 = .ok (.if_icmp .ne 14, 3) := by decide +kernel
theorem d_Y_of_84 : decode prog_8_method_20_code 84 = .ok (.aload_n 0, 1) := by decide +kernel
theorem d_Y_of_85 : decode prog_8_method_20_code 85 = .ok (.iconst (-1), 1) := by decide +kernel
theorem d_Y_of_86 : decode prog_8_method_20_code 86 = .ok (.invokevirtual 103, 3) := by decide +kernel
theorem d_Y_of_89 : decode prog_8_method_20_code 89 = .ok (.aload_n 0, 1) := by decide +kernel
theorem d_Y_of_90 : decode prog_8_method_20_code 90 = .ok (.iload_n 1, 1) := by decide +kernel
theorem d_Y_of_91 : decode prog_8_method_20_code 91 = .ok (.invokevirtual 106, 3) := by decide +kernel
theorem d_Y_of_94 : decode prog_8_method_20_code 94 = .ok (.ireturn, 1) := by decide +kernel
theorem d_Y_of_95 : decode prog_8_method_20_code 95 = .ok (.iload_n 2, 1) := by decide +kernel
theorem d_Y_of_96 : decode prog_8_method_20_code 96 = .ok (.iconst 3, 1) := by decide +kernel
theorem d_Y_of_97 : decode prog_8_method_20_code 97 = .ok (.if_icmp .ne 12, 3) := by decide +kernel
theorem d_Y_of_100 : decode prog_8_method_20_code 100 = .ok (.aload_n 0, 1) := by decide +kernel
theorem d_Y_of_101 : decode prog_8_method_20_code 101 = .ok (.getfield 13, 3) := by decide +kernel
theorem d_Y_of_104 : decode prog_8_method_20_code 104 = .ok (.iload_n 1, 1) := by decide +kernel
theorem d_Y_of_105 : decode prog_8_method_20_code 105 = .ok (.iaload, 1) := by decide +kernel
theorem d_Y_of_106 : decode prog_8_method_20_code 106 = .ok (.goto 14, 3) := by decide +kernel
theorem d_Y_of_109 : decode prog_8_method_20_code 109 = .ok (.iconst 1, 1) := by decide +kernel
theorem d_Y_of_110 : decode prog_8_method_20_code 110 = .ok (.aload_n 0, 1) := by decide +kernel
theorem d_Y_of_111 : decode prog_8_method_20_code 111 = .ok (.getfield 7, 3) := by decide +kernel
theorem d_Y_of_114 : decode prog_8_method_20_code 114 = .ok (.iload_n 1, 1) := by decide +kernel
theorem d_Y_of_115 : decode prog_8_method_20_code 115 = .ok (.iaload, 1) := by decide +kernel
theorem d_Y_of_116 : decode prog_8_method_20_code 116 = .ok (.invokestatic 96, 3) := by decide +kernel
theorem d_Y_of_119 : decode prog_8_method_20_code 119 = .ok (.ishl, 1) := by decide +kernel
theorem d_Y_of_120 : decode prog_8_method_20_code 120 = .ok (.ireturn, 1) := by decide +kernel
theorem d_Y_countArcs_0 : decode prog_8_method_18_code 0 = .ok (.iconst 0, 1) := by decide +kernel
theorem d_Y_countArcs_1 : decode prog_8_method_18_code 1 = .ok (.istore_n 2, 1) := by decide +kernel
theorem d_Y_countArcs_2 : decode prog_8_method_18_code 2 = .ok (.iload_n 2, 1) := by decide +kernel
theorem d_Y_countArcs_3 : decode prog_8_method_18_code 3 = .ok (.bipush 8, 2) := by decide +kernel
theorem d_Y_countArcs_5 : decode prog_8_method_18_code 5 = .ok (.if_icmp .ge 68, 3) := by decide +kernel
theorem d_Y_countArcs_8 : decode prog_8_method_18_code 8 = .ok (.aload_n 0, 1) := by decide +kernel
theorem d_Y_countArcs_9 : decode prog_8_method_18_code 9 = .ok (.getfield 22, 3) := by decide +kernel
theorem d_Y_countArcs_12 : decode prog_8_method_18_code 12 = .ok (.iload_n 2, 1) := by decide +kernel
theorem d_Y_countArcs_13 : decode prog_8_method_18_code 13 = .ok (.iload_n 2, 1) := by decide +kernel
theorem d_Y_countArcs_14 : decode prog_8_method_18_code 14 = .ok (.aload_n 0, 1) := by decide +kernel
theorem d_Y_countArcs_15 : decode prog_8_method_18_code 15 = .ok (.getfield 63, 3) := by decide +kernel
theorem d_Y_countArcs_18 : decode prog_8_method_18_code 18 = .ok (.if_icmp .ge 22, 3) := by decide +kernel
theorem d_Y_countArcs_21 : decode prog_8_method_18_code 21 = .ok (.aload_n 0, 1) := by decide +kernel
theorem d_Y_countArcs_22 : decode prog_8_method_18_code 22 = .ok (.getfield 13, 3) := by decide +kernel
theorem d_Y_countArcs_25 : decode prog_8_method_18_code 25 = .ok (.iload_n 2, 1) := by decide +kernel
theorem d_Y_countArcs_26 : decode prog_8_method_18_code 26 = .ok (.iaload, 1) := by decide +kernel
theorem d_Y_countArcs_27 : decode prog_8_method_18_code 27 = .ok (.iconst (-1), 1) := by decide +kernel
theorem d_Y_countArcs_28 : decode prog_8_method_18_code 28 = .ok (.if_icmp .ne 12, 3) := by decide +kernel
theorem d_Y_countArcs_31 : decode prog_8_method_18_code 31 = .ok (.aload_n 0, 1) := by decide +kernel
theorem d_Y_countArcs_32 : decode prog_8_method_18_code 32 = .ok (.getfield 7, 3) := by decide +kernel
theorem d_Y_countArcs_35 : decode prog_8_method_18_code 35 = .ok (.iload_n 2, 1) := by decide +kernel
theorem d_Y_countArcs_36 : decode prog_8_method_18_code 36 = .ok (.iaload, 1) := by decide +kernel
theorem d_Y_countArcs_37 : decode prog_8_method_18_code 37 = .ok (.goto 4, 3) := by decide +kernel
theorem d_Y_countArcs_40 : decode prog_8_method_18_code 40 = .ok (.iconst 0, 1) := by decide +kernel
theorem d_Y_countArcs_41 : decode prog_8_method_18_code 41 = .ok (.iastore, 1) := by decide +kernel
theorem d_Y_countArcs_42 : decode prog_8_method_18_code 42 = .ok (.iload_n 1, 1) := by decide +kernel
theorem d_Y_countArcs_43 : decode prog_8_method_18_code 43 = .ok (.ifCond .lt 17, 3) := by decide +kernel
theorem d_Y_countArcs_46 : decode prog_8_method_18_code 46 = .ok (.aload_n 0, 1) := by decide +kernel
theorem d_Y_countArcs_47 : decode prog_8_method_18_code 47 = .ok (.getfield 22, 3) := by decide +kernel
theorem d_Y_countArcs_50 : decode prog_8_method_18_code 50 = .ok (.iload_n 2, 1) := by decide +kernel
theorem d_Y_countArcs_51 : decode prog_8_method_18_code 51 = .ok (.dup2, 1) := by decide +kernel
theorem d_Y_countArcs_52 : decode prog_8_method_18_code 52 = .ok (.iaload, 1) := by decide +kernel
theorem d_Y_countArcs_53 : decode prog_8_method_18_code 53 = .ok (.iconst 1, 1) := by decide +kernel
theorem d_Y_countArcs_54 : decode prog_8_method_18_code 54 = .ok (.iload_n 1, 1) := by decide +kernel
theorem d_Y_countArcs_55 : decode prog_8_method_18_code 55 = .ok (.ishl, 1) := by decide +kernel
theorem d_Y_countArcs_56 : decode prog_8_method_18_code 56 = .ok (.iconst (-1), 1) := by decide +kernel
theorem d_Y_countArcs_57 : decode prog_8_method_18_code 57 = .ok (.ixor, 1) := by decide +kernel
theorem d_Y_countArcs_58 : decode prog_8_method_18_code 58 = .ok (.iand, 1) := by decide +kernel
theorem d_Y_countArcs_59 : decode prog_8_method_18_code 59 = .ok (.iastore, 1) := by decide +kernel
theorem d_Y_countArcs_60 : decode prog_8_method_18_code 60 = .ok (.aload_n 0, 1) := by decide +kernel
theorem d_Y_countArcs_61 : decode prog_8_method_18_code 61 = .ok (.getfield 25, 3) := by decide +kernel
theorem d_Y_countArcs_64 : decode prog_8_method_18_code 64 = .ok (.iload_n 2, 1) := by decide +kernel
theorem d_Y_countArcs_65 : decode prog_8_method_18_code 65 = .ok (.iconst 0, 1) := by decide +kernel
theorem d_Y_countArcs_66 : decode prog_8_method_18_code 66 = .ok (.iastore, 1) := by decide +kernel
theorem d_Y_countArcs_67 : decode prog_8_method_18_code 67 = .ok (.iinc 2 1, 3) := by decide +kernel
theorem d_Y_countArcs_70 : decode prog_8_method_18_code 70 = .ok (.goto (-68), 3) := by decide +kernel
theorem d_Y_countArcs_73 : decode prog_8_method_18_code 73 = .ok (.iconst 0, 1) := by decide +kernel
theorem d_Y_countArcs_74 : decode prog_8_method_18_code 74 = .ok (.istore_n 2, 1) := by decide +kernel
theorem d_Y_countArcs_75 : decode prog_8_method_18_code 75 = .ok (.iload_n 2, 1) := by decide +kernel
theorem d_Y_countArcs_76 : decode prog_8_method_18_code 76 = .ok (.bipush 8, 2) := by decide +kernel
theorem d_Y_countArcs_78 : decode prog_8_method_18_code 78 = .ok (.if_icmp .ge 44, 3) := by decide +kernel
theorem d_Y_countArcs_81 : decode prog_8_method_18_code 81 = .ok (.iconst 0, 1) := by decide +kernel
theorem d_Y_countArcs_82 : decode prog_8_method_18_code 82 = .ok (.istore_n 3, 1) := by decide +kernel
theorem d_Y_countArcs_83 : decode prog_8_method_18_code 83 = .ok (.iload_n 3, 1) := by decide +kernel
theorem d_Y_countArcs_84 : decode prog_8_method_18_code 84 = .ok (.bipush 8, 2) := by decide +kernel
theorem d_Y_countArcs_86 : decode prog_8_method_18_code 86 = .ok (.if_icmp .ge 30, 3) := by decide +kernel
theorem d_Y_countArcs_89 : decode prog_8_method_18_code 89 = .ok (.aload_n 0, 1) := by decide +kernel
theorem d_Y_countArcs_90 : decode prog_8_method_18_code 90 = .ok (.getfield 25, 3) := by decide +kernel
theorem d_Y_countArcs_93 : decode prog_8_method_18_code 93 = .ok (.iload_n 3, 1) := by decide +kernel
theorem d_Y_countArcs_94 : decode prog_8_method_18_code 94 = .ok (.dup2, 1) := by decide +kernel
theorem d_Y_countArcs_95 : decode prog_8_method_18_code 95 = .ok (.iaload, 1) := by decide +kernel
theorem d_Y_countArcs_96 : decode prog_8_method_18_code 96 = .ok (.aload_n 0, 1) := by decide +kernel
theorem d_Y_countArcs_97 : decode prog_8_method_18_code 97 = .ok (.getfield 22, 3) := by decide +kernel
theorem d_Y_countArcs_100 : decode prog_8_method_18_code 100 = .ok (.iload_n 2, 1) := by decide +kernel
theorem d_Y_countArcs_101 : decode prog_8_method_18_code 101 = .ok (.iaload, 1) := by decide +kernel
theorem d_Y_countArcs_102 : decode prog_8_method_18_code 102 = .ok (.iload_n 3, 1) := by decide +kernel
theorem d_Y_countArcs_103 : decode prog_8_method_18_code 103 = .ok (.ishr, 1) := by decide +kernel
theorem d_Y_countArcs_104 : decode prog_8_method_18_code 104 = .ok (.iconst 1, 1) := by decide +kernel
theorem d_Y_countArcs_105 : decode prog_8_method_18_code 105 = .ok (.iand, 1) := by decide +kernel
theorem d_Y_countArcs_106 : decode prog_8_method_18_code 106 = .ok (.iload_n 2, 1) := by decide +kernel
theorem d_Y_countArcs_107 : decode prog_8_method_18_code 107 = .ok (.ishl, 1) := by decide +kernel
theorem d_Y_countArcs_108 : decode prog_8_method_18_code 108 = .ok (.ior, 1) := by decide +kernel
theorem d_Y_countArcs_109 : decode prog_8_method_18_code 109 = .ok (.iastore, 1) := by decide +kernel
theorem d_Y_countArcs_110 : decode prog_8_method_18_code 110 = .ok (.iinc 3 1, 3) := by decide +kernel
theorem d_Y_countArcs_113 : decode prog_8_method_18_code 113 = .ok (.goto (-30), 3) := by decide +kernel
theorem d_Y_countArcs_116 : decode prog_8_method_18_code 116 = .ok (.iinc 2 1, 3) := by decide +kernel
theorem d_Y_countArcs_119 : decode prog_8_method_18_code 119 = .ok (.goto (-44), 3) := by decide +kernel
theorem d_Y_countArcs_122 : decode prog_8_method_18_code 122 = .ok (.return_, 1) := by decide +kernel
theorem d_Y_belowOf_0 : decode prog_8_method_19_code 0 = .ok (.aload_n 0, 1) := by decide +kernel
theorem d_Y_belowOf_1 : decode prog_8_method_19_code 1 = .ok (.aload_n 0, 1) := by decide +kernel
theorem d_Y_belowOf_2 : decode prog_8_method_19_code 2 = .ok (.getfield 25, 3) := by decide +kernel
theorem d_Y_belowOf_5 : decode prog_8_method_19_code 5 = .ok (.aload_n 0, 1) := by decide +kernel
theorem d_Y_belowOf_6 : decode prog_8_method_19_code 6 = .ok (.getfield 25, 3) := by decide +kernel
theorem d_Y_belowOf_9 : decode prog_8_method_19_code 9 = .ok (.iload_n 1, 1) := by decide +kernel
theorem d_Y_belowOf_10 : decode prog_8_method_19_code 10 = .ok (.iaload, 1) := by decide +kernel
theorem d_Y_belowOf_11 : decode prog_8_method_19_code 11 = .ok (.invokevirtual 88, 3) := by decide +kernel
theorem d_Y_belowOf_14 : decode prog_8_method_19_code 14 = .ok (.ireturn, 1) := by decide +kernel
theorem d_Y_separated_0 : decode prog_8_method_22_code 0 = .ok (.aload_n 0, 1) := by decide +kernel
theorem d_Y_separated_1 : decode prog_8_method_22_code 1 = .ok (.iload_n 1, 1) := by decide +kernel
theorem d_Y_separated_2 : decode prog_8_method_22_code 2 = .ok (.iload_n 2, 1) := by decide +kernel
theorem d_Y_separated_3 : decode prog_8_method_22_code 3 = .ok (.iload_n 3, 1) := by decide +kernel
theorem d_Y_separated_4 : decode prog_8_method_22_code 4 = .ok (.invokevirtual 109, 3) := by decide +kernel
theorem d_Y_separated_7 : decode prog_8_method_22_code 7 = .ok (.ifCond .ne 6, 3) := by decide +kernel
theorem d_Y_separated_10 : decode prog_8_method_22_code 10 = .ok (.bipush (-2), 2) := by decide +kernel
theorem d_Y_separated_12 : decode prog_8_method_22_code 12 = .ok (.ireturn, 1) := by decide +kernel
theorem d_Y_separated_13 : decode prog_8_method_22_code 13 = .ok (.aload_n 0, 1) := by decide +kernel
theorem d_Y_separated_14 : decode prog_8_method_22_code 14 = .ok (.iconst (-1), 1) := by decide +kernel
theorem d_Y_separated_15 : decode prog_8_method_22_code 15 = .ok (.invokevirtual 103, 3) := by decide +kernel
theorem d_Y_separated_18 : decode prog_8_method_22_code 18 = .ok (.aload_n 0, 1) := by decide +kernel
theorem d_Y_separated_19 : decode prog_8_method_22_code 19 = .ok (.aload_n 0, 1) := by decide +kernel
theorem d_Y_separated_20 : decode prog_8_method_22_code 20 = .ok (.getfield 22, 3) := by decide +kernel
theorem d_Y_separated_23 : decode prog_8_method_22_code 23 = .ok (.iload_n 1, 1) := by decide +kernel
theorem d_Y_separated_24 : decode prog_8_method_22_code 24 = .ok (.iload_n 2, 1) := by decide +kernel
theorem d_Y_separated_25 : decode prog_8_method_22_code 25 = .ok (.iload_n 3, 1) := by decide +kernel
theorem d_Y_separated_26 : decode prog_8_method_22_code 26 = .ok (.invokevirtual 113, 3) := by decide +kernel
theorem d_Y_separated_29 : decode prog_8_method_22_code 29 = .ok (.ifCond .eq 7, 3) := by decide +kernel
theorem d_Y_separated_32 : decode prog_8_method_22_code 32 = .ok (.iconst 1, 1) := by decide +kernel
theorem d_Y_separated_33 : decode prog_8_method_22_code 33 = .ok (.goto 4, 3) := by decide +kernel
theorem d_Y_separated_36 : decode prog_8_method_22_code 36 = .ok (.iconst 0, 1) := by decide +kernel
theorem d_Y_separated_37 : decode prog_8_method_22_code 37 = .ok (.ireturn, 1) := by decide +kernel
theorem d_Y_isAsked_0 : decode prog_8_method_6_code 0 = .ok (.aload_n 0, 1) := by decide +kernel
theorem d_Y_isAsked_1 : decode prog_8_method_6_code 1 = .ok (.iload_n 1, 1) := by decide +kernel
theorem d_Y_isAsked_2 : decode prog_8_method_6_code 2 = .ok (.invokevirtual 77, 3) := by decide +kernel
theorem d_Y_isAsked_5 : decode prog_8_method_6_code 5 = .ok (.ifCond .eq 44, 3) := by decide +kernel
theorem d_Y_isAsked_8 : decode prog_8_method_6_code 8 = .ok (.aload_n 0, 1) := by decide +kernel
theorem d_Y_isAsked_9 : decode prog_8_method_6_code 9 = .ok (.iload_n 2, 1) := by decide +kernel
theorem d_Y_isAsked_10 : decode prog_8_method_6_code 10 = .ok (.invokevirtual 77, 3) := by decide +kernel
theorem d_Y_isAsked_13 : decode prog_8_method_6_code 13 = .ok (.ifCond .eq 36, 3) := by decide +kernel
theorem d_Y_isAsked_16 : decode prog_8_method_6_code 16 = .ok (.iload_n 1, 1) := by decide +kernel
theorem d_Y_isAsked_17 : decode prog_8_method_6_code 17 = .ok (.iload_n 2, 1) := by decide +kernel
theorem d_Y_isAsked_18 : decode prog_8_method_6_code 18 = .ok (.if_icmp .eq 31, 3) := by decide +kernel
theorem d_Y_isAsked_21 : decode prog_8_method_6_code 21 = .ok (.aload_n 0, 1) := by decide +kernel
theorem d_Y_isAsked_22 : decode prog_8_method_6_code 22 = .ok (.iload_n 3, 1) := by decide +kernel
theorem d_Y_isAsked_23 : decode prog_8_method_6_code 23 = .ok (.invokevirtual 81, 3) := by decide +kernel
theorem d_Y_isAsked_26 : decode prog_8_method_6_code 26 = .ok (.ifCond .eq 23, 3) := by decide +kernel
theorem d_Y_isAsked_29 : decode prog_8_method_6_code 29 = .ok (.iload_n 3, 1) := by decide +kernel
theorem d_Y_isAsked_30 : decode prog_8_method_6_code 30 = .ok (.iload_n 1, 1) := by decide +kernel
theorem d_Y_isAsked_31 : decode prog_8_method_6_code 31 = .ok (.ishr, 1) := by decide +kernel
theorem d_Y_isAsked_32 : decode prog_8_method_6_code 32 = .ok (.iconst 1, 1) := by decide +kernel
theorem d_Y_isAsked_33 : decode prog_8_method_6_code 33 = .ok (.iand, 1) := by decide +kernel
theorem d_Y_isAsked_34 : decode prog_8_method_6_code 34 = .ok (.ifCond .ne 15, 3) := by decide +kernel
theorem d_Y_isAsked_37 : decode prog_8_method_6_code 37 = .ok (.iload_n 3, 1) := by decide +kernel
theorem d_Y_isAsked_38 : decode prog_8_method_6_code 38 = .ok (.iload_n 2, 1) := by decide +kernel
theorem d_Y_isAsked_39 : decode prog_8_method_6_code 39 = .ok (.ishr, 1) := by decide +kernel
theorem d_Y_isAsked_40 : decode prog_8_method_6_code 40 = .ok (.iconst 1, 1) := by decide +kernel
theorem d_Y_isAsked_41 : decode prog_8_method_6_code 41 = .ok (.iand, 1) := by decide +kernel
theorem d_Y_isAsked_42 : decode prog_8_method_6_code 42 = .ok (.ifCond .ne 7, 3) := by decide +kernel
theorem d_Y_isAsked_45 : decode prog_8_method_6_code 45 = .ok (.iconst 1, 1) := by decide +kernel
theorem d_Y_isAsked_46 : decode prog_8_method_6_code 46 = .ok (.goto 4, 3) := by decide +kernel
theorem d_Y_isAsked_49 : decode prog_8_method_6_code 49 = .ok (.iconst 0, 1) := by decide +kernel
theorem d_Y_isAsked_50 : decode prog_8_method_6_code 50 = .ok (.ireturn, 1) := by decide +kernel
theorem d_Y_isSet_0 : decode prog_8_method_5_code 0 = .ok (.iload_n 1, 1) := by decide +kernel
theorem d_Y_isSet_1 : decode prog_8_method_5_code 1 = .ok (.ifCond .lt 17, 3) := by decide +kernel
theorem d_Y_isSet_4 : decode prog_8_method_5_code 4 = .ok (.iload_n 1, 1) := by decide +kernel
theorem d_Y_isSet_5 : decode prog_8_method_5_code 5 = .ok (.iconst 1, 1) := by decide +kernel
theorem d_Y_isSet_6 : decode prog_8_method_5_code 6 = .ok (.aload_n 0, 1) := by decide +kernel
theorem d_Y_isSet_7 : decode prog_8_method_5_code 7 = .ok (.getfield 63, 3) := by decide +kernel
theorem d_Y_isSet_10 : decode prog_8_method_5_code 10 = .ok (.ishl, 1) := by decide +kernel
theorem d_Y_isSet_11 : decode prog_8_method_5_code 11 = .ok (.if_icmp .ge 7, 3) := by decide +kernel
theorem d_Y_isSet_14 : decode prog_8_method_5_code 14 = .ok (.iconst 1, 1) := by decide +kernel
theorem d_Y_isSet_15 : decode prog_8_method_5_code 15 = .ok (.goto 4, 3) := by decide +kernel
theorem d_Y_isSet_18 : decode prog_8_method_5_code 18 = .ok (.iconst 0, 1) := by decide +kernel
theorem d_Y_isSet_19 : decode prog_8_method_5_code 19 = .ok (.ireturn, 1) := by decide +kernel
theorem d_Y_isSeparated_0 : decode prog_8_method_21_code 0 = .ok (.aload_n 0, 1) := by decide +kernel
theorem d_Y_isSeparated_1 : decode prog_8_method_21_code 1 = .ok (.aload_n 1, 1) := by decide +kernel
theorem d_Y_isSeparated_2 : decode prog_8_method_21_code 2 = .ok (.iload 4, 2) := by decide +kernel
theorem d_Y_isSeparated_4 : decode prog_8_method_21_code 4 = .ok (.iconst 1, 1) := by decide +kernel
theorem d_Y_isSeparated_5 : decode prog_8_method_21_code 5 = .ok (.iload_n 2, 1) := by decide +kernel
theorem d_Y_isSeparated_6 : decode prog_8_method_21_code 6 = .ok (.ishl, 1) := by decide +kernel
theorem d_Y_isSeparated_7 : decode prog_8_method_21_code 7 = .ok (.ior, 1) := by decide +kernel
theorem d_Y_isSeparated_8 : decode prog_8_method_21_code 8 = .ok (.iconst 1, 1) := by decide +kernel
theorem d_Y_isSeparated_9 : decode prog_8_method_21_code 9 = .ok (.iload_n 3, 1) := by decide +kernel
theorem d_Y_isSeparated_10 : decode prog_8_method_21_code 10 = .ok (.ishl, 1) := by decide +kernel
theorem d_Y_isSeparated_11 : decode prog_8_method_21_code 11 = .ok (.ior, 1) := by decide +kernel
theorem d_Y_isSeparated_12 : decode prog_8_method_21_code 12 = .ok (.invokevirtual 88, 3) := by decide +kernel
theorem d_Y_isSeparated_15 : decode prog_8_method_21_code 15 = .ok (.istore 5, 2) := by decide +kernel
theorem d_Y_isSeparated_17 : decode prog_8_method_21_code 17 = .ok (.iconst 0, 1) := by decide +kernel
theorem d_Y_isSeparated_18 : decode prog_8_method_21_code 18 = .ok (.istore 6, 2) := by decide +kernel
theorem d_Y_isSeparated_20 : decode prog_8_method_21_code 20 = .ok (.iload 6, 2) := by decide +kernel
theorem d_Y_isSeparated_22 : decode prog_8_method_21_code 22 = .ok (.aload_n 0, 1) := by decide +kernel
theorem d_Y_isSeparated_23 : decode prog_8_method_21_code 23 = .ok (.getfield 63, 3) := by decide +kernel
theorem d_Y_isSeparated_26 : decode prog_8_method_21_code 26 = .ok (.if_icmp .ge 17, 3) := by decide +kernel
theorem d_Y_isSeparated_29 : decode prog_8_method_21_code 29 = .ok (.aload_n 0, 1) := by decide +kernel
theorem d_Y_isSeparated_30 : decode prog_8_method_21_code 30 = .ok (.getfield 28, 3) := by decide +kernel
theorem d_Y_isSeparated_33 : decode prog_8_method_21_code 33 = .ok (.iload 6, 2) := by decide +kernel
theorem d_Y_isSeparated_35 : decode prog_8_method_21_code 35 = .ok (.iconst 0, 1) := by decide +kernel
theorem d_Y_isSeparated_36 : decode prog_8_method_21_code 36 = .ok (.iastore, 1) := by decide +kernel
theorem d_Y_isSeparated_37 : decode prog_8_method_21_code 37 = .ok (.iinc 6 1, 3) := by decide +kernel
theorem d_Y_isSeparated_40 : decode prog_8_method_21_code 40 = .ok (.goto (-20), 3) := by decide +kernel
theorem d_Y_isSeparated_43 : decode prog_8_method_21_code 43 = .ok (.iconst 0, 1) := by decide +kernel
theorem d_Y_isSeparated_44 : decode prog_8_method_21_code 44 = .ok (.istore 6, 2) := by decide +kernel
theorem d_Y_isSeparated_46 : decode prog_8_method_21_code 46 = .ok (.iload 6, 2) := by decide +kernel
theorem d_Y_isSeparated_48 : decode prog_8_method_21_code 48 = .ok (.aload_n 0, 1) := by decide +kernel
theorem d_Y_isSeparated_49 : decode prog_8_method_21_code 49 = .ok (.getfield 63, 3) := by decide +kernel
theorem d_Y_isSeparated_52 : decode prog_8_method_21_code 52 = .ok (.if_icmp .ge 91, 3) := by decide +kernel
theorem d_Y_isSeparated_55 : decode prog_8_method_21_code 55 = .ok (.iload 5, 2) := by decide +kernel
theorem d_Y_isSeparated_57 : decode prog_8_method_21_code 57 = .ok (.iload 6, 2) := by decide +kernel
theorem d_Y_isSeparated_59 : decode prog_8_method_21_code 59 = .ok (.ishr, 1) := by decide +kernel
theorem d_Y_isSeparated_60 : decode prog_8_method_21_code 60 = .ok (.iconst 1, 1) := by decide +kernel
theorem d_Y_isSeparated_61 : decode prog_8_method_21_code 61 = .ok (.iand, 1) := by decide +kernel
theorem d_Y_isSeparated_62 : decode prog_8_method_21_code 62 = .ok (.iconst 1, 1) := by decide +kernel
theorem d_Y_isSeparated_63 : decode prog_8_method_21_code 63 = .ok (.if_icmp .ne 10, 3) := by decide +kernel
theorem d_Y_isSeparated_66 : decode prog_8_method_21_code 66 = .ok (.aload_n 1, 1) := by decide +kernel
theorem d_Y_isSeparated_67 : decode prog_8_method_21_code 67 = .ok (.iload 6, 2) := by decide +kernel
theorem d_Y_isSeparated_69 : decode prog_8_method_21_code 69 = .ok (.iaload, 1) := by decide +kernel
theorem d_Y_isSeparated_70 : decode prog_8_method_21_code 70 = .ok (.goto 4, 3) := by decide +kernel
theorem d_Y_isSeparated_73 : decode prog_8_method_21_code 73 = .ok (.iconst 0, 1) := by decide +kernel
theorem d_Y_isSeparated_74 : decode prog_8_method_21_code 74 = .ok (.istore 7, 2) := by decide +kernel
theorem d_Y_isSeparated_76 : decode prog_8_method_21_code 76 = .ok (.aload_n 0, 1) := by decide +kernel
theorem d_Y_isSeparated_77 : decode prog_8_method_21_code 77 = .ok (.getfield 28, 3) := by decide +kernel
theorem d_Y_isSeparated_80 : decode prog_8_method_21_code 80 = .ok (.iload 6, 2) := by decide +kernel
theorem d_Y_isSeparated_82 : decode prog_8_method_21_code 82 = .ok (.dup2, 1) := by decide +kernel
theorem d_Y_isSeparated_83 : decode prog_8_method_21_code 83 = .ok (.iaload, 1) := by decide +kernel
theorem d_Y_isSeparated_84 : decode prog_8_method_21_code 84 = .ok (.iload 7, 2) := by decide +kernel
theorem d_Y_isSeparated_86 : decode prog_8_method_21_code 86 = .ok (.ior, 1) := by decide +kernel
theorem d_Y_isSeparated_87 : decode prog_8_method_21_code 87 = .ok (.iastore, 1) := by decide +kernel
theorem d_Y_isSeparated_88 : decode prog_8_method_21_code 88 = .ok (.iconst 0, 1) := by decide +kernel
theorem d_Y_isSeparated_89 : decode prog_8_method_21_code 89 = .ok (.istore 8, 2) := by decide +kernel
theorem d_Y_isSeparated_91 : decode prog_8_method_21_code 91 = .ok (.iload 7, 2) := by decide +kernel
theorem d_Y_isSeparated_93 : decode prog_8_method_21_code 93 = .ok (.iload 8, 2) := by decide +kernel
theorem d_Y_isSeparated_95 : decode prog_8_method_21_code 95 = .ok (.ishr, 1) := by decide +kernel
theorem d_Y_isSeparated_96 : decode prog_8_method_21_code 96 = .ok (.ifCond .eq 41, 3) := by decide +kernel
theorem d_Y_isSeparated_99 : decode prog_8_method_21_code 99 = .ok (.aload_n 0, 1) := by decide +kernel
theorem d_Y_isSeparated_100 : decode prog_8_method_21_code 100 = .ok (.getfield 28, 3) := by decide +kernel
theorem d_Y_isSeparated_103 : decode prog_8_method_21_code 103 = .ok (.iload 8, 2) := by decide +kernel
theorem d_Y_isSeparated_105 : decode prog_8_method_21_code 105 = .ok (.dup2, 1) := by decide +kernel
theorem d_Y_isSeparated_106 : decode prog_8_method_21_code 106 = .ok (.iaload, 1) := by decide +kernel
theorem d_Y_isSeparated_107 : decode prog_8_method_21_code 107 = .ok (.iload 7, 2) := by decide +kernel
theorem d_Y_isSeparated_109 : decode prog_8_method_21_code 109 = .ok (.iload 8, 2) := by decide +kernel
theorem d_Y_isSeparated_111 : decode prog_8_method_21_code 111 = .ok (.ishr, 1) := by decide +kernel
theorem d_Y_isSeparated_112 : decode prog_8_method_21_code 112 = .ok (.iconst 1, 1) := by decide +kernel
theorem d_Y_isSeparated_113 : decode prog_8_method_21_code 113 = .ok (.iand, 1) := by decide +kernel
theorem d_Y_isSeparated_114 : decode prog_8_method_21_code 114 = .ok (.iconst 1, 1) := by decide +kernel
theorem d_Y_isSeparated_115 : decode prog_8_method_21_code 115 = .ok (.if_icmp .ne 13, 3) := by decide +kernel
theorem d_Y_isSeparated_118 : decode prog_8_method_21_code 118 = .ok (.iload 7, 2) := by decide +kernel
theorem d_Y_isSeparated_120 : decode prog_8_method_21_code 120 = .ok (.iconst 1, 1) := by decide +kernel
theorem d_Y_isSeparated_121 : decode prog_8_method_21_code 121 = .ok (.iload 6, 2) := by decide +kernel
theorem d_Y_isSeparated_123 : decode prog_8_method_21_code 123 = .ok (.ishl, 1) := by decide +kernel
theorem d_Y_isSeparated_124 : decode prog_8_method_21_code 124 = .ok (.ior, 1) := by decide +kernel
theorem d_Y_isSeparated_125 : decode prog_8_method_21_code 125 = .ok (.goto 4, 3) := by decide +kernel
theorem d_Y_isSeparated_128 : decode prog_8_method_21_code 128 = .ok (.iconst 0, 1) := by decide +kernel
theorem d_Y_isSeparated_129 : decode prog_8_method_21_code 129 = .ok (.ior, 1) := by decide +kernel
theorem d_Y_isSeparated_130 : decode prog_8_method_21_code 130 = .ok (.iastore, 1) := by decide +kernel
theorem d_Y_isSeparated_131 : decode prog_8_method_21_code 131 = .ok (.iinc 8 1, 3) := by decide +kernel
theorem d_Y_isSeparated_134 : decode prog_8_method_21_code 134 = .ok (.goto (-43), 3) := by decide +kernel
theorem d_Y_isSeparated_137 : decode prog_8_method_21_code 137 = .ok (.iinc 6 1, 3) := by decide +kernel
theorem d_Y_isSeparated_140 : decode prog_8_method_21_code 140 = .ok (.goto (-94), 3) := by decide +kernel
theorem d_Y_isSeparated_143 : decode prog_8_method_21_code 143 = .ok (.iconst 1, 1) := by decide +kernel
theorem d_Y_isSeparated_144 : decode prog_8_method_21_code 144 = .ok (.iload_n 2, 1) := by decide +kernel
theorem d_Y_isSeparated_145 : decode prog_8_method_21_code 145 = .ok (.ishl, 1) := by decide +kernel
theorem d_Y_isSeparated_146 : decode prog_8_method_21_code 146 = .ok (.istore 6, 2) := by decide +kernel
theorem d_Y_isSeparated_148 : decode prog_8_method_21_code 148 = .ok (.iconst 0, 1) := by decide +kernel
theorem d_Y_isSeparated_149 : decode prog_8_method_21_code 149 = .ok (.istore 7, 2) := by decide +kernel
theorem d_Y_isSeparated_151 : decode prog_8_method_21_code 151 = .ok (.iload 6, 2) := by decide +kernel
theorem d_Y_isSeparated_153 : decode prog_8_method_21_code 153 = .ok (.iload 7, 2) := by decide +kernel
theorem d_Y_isSeparated_155 : decode prog_8_method_21_code 155 = .ok (.if_icmp .eq 68, 3) := by decide +kernel
theorem d_Y_isSeparated_158 : decode prog_8_method_21_code 158 = .ok (.iload 6, 2) := by decide +kernel
theorem d_Y_isSeparated_160 : decode prog_8_method_21_code 160 = .ok (.iload_n 3, 1) := by decide +kernel
theorem d_Y_isSeparated_161 : decode prog_8_method_21_code 161 = .ok (.ishr, 1) := by decide +kernel
theorem d_Y_isSeparated_162 : decode prog_8_method_21_code 162 = .ok (.iconst 1, 1) := by decide +kernel
theorem d_Y_isSeparated_163 : decode prog_8_method_21_code 163 = .ok (.iand, 1) := by decide +kernel
theorem d_Y_isSeparated_164 : decode prog_8_method_21_code 164 = .ok (.ifCond .ne 59, 3) := by decide +kernel
theorem d_Y_isSeparated_167 : decode prog_8_method_21_code 167 = .ok (.iload 6, 2) := by decide +kernel
theorem d_Y_isSeparated_169 : decode prog_8_method_21_code 169 = .ok (.istore 7, 2) := by decide +kernel
theorem d_Y_isSeparated_171 : decode prog_8_method_21_code 171 = .ok (.iconst 0, 1) := by decide +kernel
theorem d_Y_isSeparated_172 : decode prog_8_method_21_code 172 = .ok (.istore 8, 2) := by decide +kernel
theorem d_Y_isSeparated_174 : decode prog_8_method_21_code 174 = .ok (.iload 6, 2) := by decide +kernel
theorem d_Y_isSeparated_176 : decode prog_8_method_21_code 176 = .ok (.iload 8, 2) := by decide +kernel
theorem d_Y_isSeparated_178 : decode prog_8_method_21_code 178 = .ok (.ishr, 1) := by decide +kernel
theorem d_Y_isSeparated_179 : decode prog_8_method_21_code 179 = .ok (.ifCond .eq 41, 3) := by decide +kernel
theorem d_Y_isSeparated_182 : decode prog_8_method_21_code 182 = .ok (.iload 6, 2) := by decide +kernel
theorem d_Y_isSeparated_184 : decode prog_8_method_21_code 184 = .ok (.iload 6, 2) := by decide +kernel
theorem d_Y_isSeparated_186 : decode prog_8_method_21_code 186 = .ok (.iload 8, 2) := by decide +kernel
theorem d_Y_isSeparated_188 : decode prog_8_method_21_code 188 = .ok (.ishr, 1) := by decide +kernel
theorem d_Y_isSeparated_189 : decode prog_8_method_21_code 189 = .ok (.iconst 1, 1) := by decide +kernel
theorem d_Y_isSeparated_190 : decode prog_8_method_21_code 190 = .ok (.iand, 1) := by decide +kernel
theorem d_Y_isSeparated_191 : decode prog_8_method_21_code 191 = .ok (.iconst 1, 1) := by decide +kernel
theorem d_Y_isSeparated_192 : decode prog_8_method_21_code 192 = .ok (.if_icmp .ne 18, 3) := by decide +kernel
theorem d_Y_isSeparated_195 : decode prog_8_method_21_code 195 = .ok (.aload_n 0, 1) := by decide +kernel
theorem d_Y_isSeparated_196 : decode prog_8_method_21_code 196 = .ok (.getfield 28, 3) := by decide +kernel
theorem d_Y_isSeparated_199 : decode prog_8_method_21_code 199 = .ok (.iload 8, 2) := by decide +kernel
theorem d_Y_isSeparated_201 : decode prog_8_method_21_code 201 = .ok (.iaload, 1) := by decide +kernel
theorem d_Y_isSeparated_202 : decode prog_8_method_21_code 202 = .ok (.iload 4, 2) := by decide +kernel
theorem d_Y_isSeparated_204 : decode prog_8_method_21_code 204 = .ok (.iconst (-1), 1) := by decide +kernel
theorem d_Y_isSeparated_205 : decode prog_8_method_21_code 205 = .ok (.ixor, 1) := by decide +kernel
theorem d_Y_isSeparated_206 : decode prog_8_method_21_code 206 = .ok (.iand, 1) := by decide +kernel
theorem d_Y_isSeparated_207 : decode prog_8_method_21_code 207 = .ok (.goto 4, 3) := by decide +kernel
theorem d_Y_isSeparated_210 : decode prog_8_method_21_code 210 = .ok (.iconst 0, 1) := by decide +kernel
theorem d_Y_isSeparated_211 : decode prog_8_method_21_code 211 = .ok (.ior, 1) := by decide +kernel
theorem d_Y_isSeparated_212 : decode prog_8_method_21_code 212 = .ok (.istore 6, 2) := by decide +kernel
theorem d_Y_isSeparated_214 : decode prog_8_method_21_code 214 = .ok (.iinc 8 1, 3) := by decide +kernel
theorem d_Y_isSeparated_217 : decode prog_8_method_21_code 217 = .ok (.goto (-43), 3) := by decide +kernel
theorem d_Y_isSeparated_220 : decode prog_8_method_21_code 220 = .ok (.goto (-69), 3) := by decide +kernel
theorem d_Y_isSeparated_223 : decode prog_8_method_21_code 223 = .ok (.iload 6, 2) := by decide +kernel
theorem d_Y_isSeparated_225 : decode prog_8_method_21_code 225 = .ok (.iload_n 3, 1) := by decide +kernel
theorem d_Y_isSeparated_226 : decode prog_8_method_21_code 226 = .ok (.ishr, 1) := by decide +kernel
theorem d_Y_isSeparated_227 : decode prog_8_method_21_code 227 = .ok (.iconst 1, 1) := by decide +kernel
theorem d_Y_isSeparated_228 : decode prog_8_method_21_code 228 = .ok (.iand, 1) := by decide +kernel
theorem d_Y_isSeparated_229 : decode prog_8_method_21_code 229 = .ok (.ifCond .ne 7, 3) := by decide +kernel
theorem d_Y_isSeparated_232 : decode prog_8_method_21_code 232 = .ok (.iconst 1, 1) := by decide +kernel
theorem d_Y_isSeparated_233 : decode prog_8_method_21_code 233 = .ok (.goto 4, 3) := by decide +kernel
theorem d_Y_isSeparated_236 : decode prog_8_method_21_code 236 = .ok (.iconst 0, 1) := by decide +kernel
theorem d_Y_isSeparated_237 : decode prog_8_method_21_code 237 = .ok (.ireturn, 1) := by decide +kernel
theorem d_Y_walk_0 : decode prog_8_method_23_code 0 = .ok (.aload_n 0, 1) := by decide +kernel
theorem d_Y_walk_1 : decode prog_8_method_23_code 1 = .ok (.iload_n 1, 1) := by decide +kernel
theorem d_Y_walk_2 : decode prog_8_method_23_code 2 = .ok (.iload_n 2, 1) := by decide +kernel
theorem d_Y_walk_3 : decode prog_8_method_23_code 3 = .ok (.iload_n 3, 1) := by decide +kernel
theorem d_Y_walk_4 : decode prog_8_method_23_code 4 = .ok (.invokevirtual 109, 3) := by decide +kernel
theorem d_Y_walk_7 : decode prog_8_method_23_code 7 = .ok (.ifCond .ne 6, 3) := by decide +kernel
theorem d_Y_walk_10 : decode prog_8_method_23_code 10 = .ok (.bipush (-2), 2) := by decide +kernel
theorem d_Y_walk_12 : decode prog_8_method_23_code 12 = .ok (.ireturn, 1) := by decide +kernel
theorem d_Y_walk_13 : decode prog_8_method_23_code 13 = .ok (.aload_n 0, 1) := by decide +kernel
theorem d_Y_walk_14 : decode prog_8_method_23_code 14 = .ok (.iconst (-1), 1) := by decide +kernel
theorem d_Y_walk_15 : decode prog_8_method_23_code 15 = .ok (.invokevirtual 103, 3) := by decide +kernel
theorem d_Y_walk_18 : decode prog_8_method_23_code 18 = .ok (.aload_n 0, 1) := by decide +kernel
theorem d_Y_walk_19 : decode prog_8_method_23_code 19 = .ok (.aload_n 0, 1) := by decide +kernel
theorem d_Y_walk_20 : decode prog_8_method_23_code 20 = .ok (.getfield 22, 3) := by decide +kernel
theorem d_Y_walk_23 : decode prog_8_method_23_code 23 = .ok (.iload_n 3, 1) := by decide +kernel
theorem d_Y_walk_24 : decode prog_8_method_23_code 24 = .ok (.invokevirtual 88, 3) := by decide +kernel
theorem d_Y_walk_27 : decode prog_8_method_23_code 27 = .ok (.istore 4, 2) := by decide +kernel
theorem d_Y_walk_29 : decode prog_8_method_23_code 29 = .ok (.aload_n 0, 1) := by decide +kernel
theorem d_Y_walk_30 : decode prog_8_method_23_code 30 = .ok (.getfield 37, 3) := by decide +kernel
theorem d_Y_walk_33 : decode prog_8_method_23_code 33 = .ok (.iconst 0, 1) := by decide +kernel
theorem d_Y_walk_34 : decode prog_8_method_23_code 34 = .ok (.iconst 0, 1) := by decide +kernel
theorem d_Y_walk_35 : decode prog_8_method_23_code 35 = .ok (.iastore, 1) := by decide +kernel
theorem d_Y_walk_36 : decode prog_8_method_23_code 36 = .ok (.aload_n 0, 1) := by decide +kernel
theorem d_Y_walk_37 : decode prog_8_method_23_code 37 = .ok (.getfield 37, 3) := by decide +kernel
theorem d_Y_walk_40 : decode prog_8_method_23_code 40 = .ok (.iconst 1, 1) := by decide +kernel
theorem d_Y_walk_41 : decode prog_8_method_23_code 41 = .ok (.iconst 0, 1) := by decide +kernel
theorem d_Y_walk_42 : decode prog_8_method_23_code 42 = .ok (.iastore, 1) := by decide +kernel
theorem d_Y_walk_43 : decode prog_8_method_23_code 43 = .ok (.aload_n 0, 1) := by decide +kernel
theorem d_Y_walk_44 : decode prog_8_method_23_code 44 = .ok (.getfield 31, 3) := by decide +kernel
theorem d_Y_walk_47 : decode prog_8_method_23_code 47 = .ok (.iconst 0, 1) := by decide +kernel
theorem d_Y_walk_48 : decode prog_8_method_23_code 48 = .ok (.aload_n 0, 1) := by decide +kernel
theorem d_Y_walk_49 : decode prog_8_method_23_code 49 = .ok (.iload_n 1, 1) := by decide +kernel
theorem d_Y_walk_50 : decode prog_8_method_23_code 50 = .ok (.iconst 0, 1) := by decide +kernel
theorem d_Y_walk_51 : decode prog_8_method_23_code 51 = .ok (.invokevirtual 117, 3) := by decide +kernel
theorem d_Y_walk_54 : decode prog_8_method_23_code 54 = .ok (.iastore, 1) := by decide +kernel
theorem d_Y_walk_55 : decode prog_8_method_23_code 55 = .ok (.aload_n 0, 1) := by decide +kernel
theorem d_Y_walk_56 : decode prog_8_method_23_code 56 = .ok (.getfield 31, 3) := by decide +kernel
theorem d_Y_walk_59 : decode prog_8_method_23_code 59 = .ok (.iconst 1, 1) := by decide +kernel
theorem d_Y_walk_60 : decode prog_8_method_23_code 60 = .ok (.aload_n 0, 1) := by decide +kernel
theorem d_Y_walk_61 : decode prog_8_method_23_code 61 = .ok (.iload_n 1, 1) := by decide +kernel
theorem d_Y_walk_62 : decode prog_8_method_23_code 62 = .ok (.iconst 1, 1) := by decide +kernel
theorem d_Y_walk_63 : decode prog_8_method_23_code 63 = .ok (.invokevirtual 117, 3) := by decide +kernel
theorem d_Y_walk_66 : decode prog_8_method_23_code 66 = .ok (.iastore, 1) := by decide +kernel
end
section
theorem d_Y_walk_67 : decode prog_8_method_23_code 67 = .ok (.iconst 1, 1) := by decide +kernel
theorem d_Y_walk_68 : decode prog_8_method_23_code 68 = .ok (.istore 5, 2) := by decide +kernel
theorem d_Y_walk_70 : decode prog_8_method_23_code 70 = .ok (.aload_n 0, 1) := by decide +kernel
theorem d_Y_walk_71 : decode prog_8_method_23_code 71 = .ok (.getfield 31, 3) := by decide +kernel
theorem d_Y_walk_74 : decode prog_8_method_23_code 74 = .ok (.iconst 0, 1) := by decide +kernel
theorem d_Y_walk_75 : decode prog_8_method_23_code 75 = .ok (.iaload, 1) := by decide +kernel
theorem d_Y_walk_76 : decode prog_8_method_23_code 76 = .ok (.ifCond .ne 12, 3) := by decide +kernel
theorem d_Y_walk_79 : decode prog_8_method_23_code 79 = .ok (.aload_n 0, 1) := by decide +kernel
theorem d_Y_walk_80 : decode prog_8_method_23_code 80 = .ok (.getfield 31, 3) := by decide +kernel
theorem d_Y_walk_83 : decode prog_8_method_23_code 83 = .ok (.iconst 1, 1) := by decide +kernel
theorem d_Y_walk_84 : decode prog_8_method_23_code 84 = .ok (.iaload, 1) := by decide +kernel
theorem d_Y_walk_85 : decode prog_8_method_23_code 85 = .ok (.ifCond .eq 279, 3) := by decide +kernel
theorem d_Y_walk_88 : decode prog_8_method_23_code 88 = .ok (.aload_n 0, 1) := by decide +kernel
theorem d_Y_walk_89 : decode prog_8_method_23_code 89 = .ok (.getfield 31, 3) := by decide +kernel
theorem d_Y_walk_92 : decode prog_8_method_23_code 92 = .ok (.iconst 0, 1) := by decide +kernel
theorem d_Y_walk_93 : decode prog_8_method_23_code 93 = .ok (.iaload, 1) := by decide +kernel
theorem d_Y_walk_94 : decode prog_8_method_23_code 94 = .ok (.aload_n 0, 1) := by decide +kernel
theorem d_Y_walk_95 : decode prog_8_method_23_code 95 = .ok (.getfield 31, 3) := by decide +kernel
theorem d_Y_walk_98 : decode prog_8_method_23_code 98 = .ok (.iconst 1, 1) := by decide +kernel
theorem d_Y_walk_99 : decode prog_8_method_23_code 99 = .ok (.iaload, 1) := by decide +kernel
theorem d_Y_walk_100 : decode prog_8_method_23_code 100 = .ok (.ior, 1) := by decide +kernel
theorem d_Y_walk_101 : decode prog_8_method_23_code 101 = .ok (.iload_n 2, 1) := by decide +kernel
theorem d_Y_walk_102 : decode prog_8_method_23_code 102 = .ok (.ishr, 1) := by decide +kernel
theorem d_Y_walk_103 : decode prog_8_method_23_code 103 = .ok (.iconst 1, 1) := by decide +kernel
theorem d_Y_walk_104 : decode prog_8_method_23_code 104 = .ok (.iand, 1) := by decide +kernel
theorem d_Y_walk_105 : decode prog_8_method_23_code 105 = .ok (.iconst 1, 1) := by decide +kernel
theorem d_Y_walk_106 : decode prog_8_method_23_code 106 = .ok (.if_icmp .ne 6, 3) := by decide +kernel
theorem d_Y_walk_109 : decode prog_8_method_23_code 109 = .ok (.iload 5, 2) := by decide +kernel
theorem d_Y_walk_111 : decode prog_8_method_23_code 111 = .ok (.ireturn, 1) := by decide +kernel
theorem d_Y_walk_112 : decode prog_8_method_23_code 112 = .ok (.aload_n 0, 1) := by decide +kernel
theorem d_Y_walk_113 : decode prog_8_method_23_code 113 = .ok (.getfield 37, 3) := by decide +kernel
theorem d_Y_walk_116 : decode prog_8_method_23_code 116 = .ok (.iconst 0, 1) := by decide +kernel
theorem d_Y_walk_117 : decode prog_8_method_23_code 117 = .ok (.dup2, 1) := by decide +kernel
theorem d_Y_walk_118 : decode prog_8_method_23_code 118 = .ok (.iaload, 1) := by decide +kernel
theorem d_Y_walk_119 : decode prog_8_method_23_code 119 = .ok (.aload_n 0, 1) := by decide +kernel
theorem d_Y_walk_120 : decode prog_8_method_23_code 120 = .ok (.getfield 31, 3) := by decide +kernel
theorem d_Y_walk_123 : decode prog_8_method_23_code 123 = .ok (.iconst 0, 1) := by decide +kernel
theorem d_Y_walk_124 : decode prog_8_method_23_code 124 = .ok (.iaload, 1) := by decide +kernel
theorem d_Y_walk_125 : decode prog_8_method_23_code 125 = .ok (.ior, 1) := by decide +kernel
theorem d_Y_walk_126 : decode prog_8_method_23_code 126 = .ok (.iastore, 1) := by decide +kernel
theorem d_Y_walk_127 : decode prog_8_method_23_code 127 = .ok (.aload_n 0, 1) := by decide +kernel
theorem d_Y_walk_128 : decode prog_8_method_23_code 128 = .ok (.getfield 37, 3) := by decide +kernel
theorem d_Y_walk_131 : decode prog_8_method_23_code 131 = .ok (.iconst 1, 1) := by decide +kernel
theorem d_Y_walk_132 : decode prog_8_method_23_code 132 = .ok (.dup2, 1) := by decide +kernel
theorem d_Y_walk_133 : decode prog_8_method_23_code 133 = .ok (.iaload, 1) := by decide +kernel
theorem d_Y_walk_134 : decode prog_8_method_23_code 134 = .ok (.aload_n 0, 1) := by decide +kernel
theorem d_Y_walk_135 : decode prog_8_method_23_code 135 = .ok (.getfield 31, 3) := by decide +kernel
theorem d_Y_walk_138 : decode prog_8_method_23_code 138 = .ok (.iconst 1, 1) := by decide +kernel
theorem d_Y_walk_139 : decode prog_8_method_23_code 139 = .ok (.iaload, 1) := by decide +kernel
theorem d_Y_walk_140 : decode prog_8_method_23_code 140 = .ok (.ior, 1) := by decide +kernel
theorem d_Y_walk_141 : decode prog_8_method_23_code 141 = .ok (.iastore, 1) := by decide +kernel
theorem d_Y_walk_142 : decode prog_8_method_23_code 142 = .ok (.aload_n 0, 1) := by decide +kernel
theorem d_Y_walk_143 : decode prog_8_method_23_code 143 = .ok (.getfield 34, 3) := by decide +kernel
theorem d_Y_walk_146 : decode prog_8_method_23_code 146 = .ok (.iconst 0, 1) := by decide +kernel
theorem d_Y_walk_147 : decode prog_8_method_23_code 147 = .ok (.iconst 0, 1) := by decide +kernel
theorem d_Y_walk_148 : decode prog_8_method_23_code 148 = .ok (.iastore, 1) := by decide +kernel
theorem d_Y_walk_149 : decode prog_8_method_23_code 149 = .ok (.aload_n 0, 1) := by decide +kernel
theorem d_Y_walk_150 : decode prog_8_method_23_code 150 = .ok (.getfield 34, 3) := by decide +kernel
theorem d_Y_walk_153 : decode prog_8_method_23_code 153 = .ok (.iconst 1, 1) := by decide +kernel
theorem d_Y_walk_154 : decode prog_8_method_23_code 154 = .ok (.iconst 0, 1) := by decide +kernel
theorem d_Y_walk_155 : decode prog_8_method_23_code 155 = .ok (.iastore, 1) := by decide +kernel
theorem d_Y_walk_156 : decode prog_8_method_23_code 156 = .ok (.iconst 0, 1) := by decide +kernel
theorem d_Y_walk_157 : decode prog_8_method_23_code 157 = .ok (.istore 6, 2) := by decide +kernel
theorem d_Y_walk_159 : decode prog_8_method_23_code 159 = .ok (.iload 6, 2) := by decide +kernel
theorem d_Y_walk_161 : decode prog_8_method_23_code 161 = .ok (.aload_n 0, 1) := by decide +kernel
theorem d_Y_walk_162 : decode prog_8_method_23_code 162 = .ok (.getfield 63, 3) := by decide +kernel
theorem d_Y_walk_165 : decode prog_8_method_23_code 165 = .ok (.if_icmp .ge 151, 3) := by decide +kernel
theorem d_Y_walk_168 : decode prog_8_method_23_code 168 = .ok (.aload_n 0, 1) := by decide +kernel
theorem d_Y_walk_169 : decode prog_8_method_23_code 169 = .ok (.getfield 31, 3) := by decide +kernel
theorem d_Y_walk_172 : decode prog_8_method_23_code 172 = .ok (.iconst 1, 1) := by decide +kernel
theorem d_Y_walk_173 : decode prog_8_method_23_code 173 = .ok (.iaload, 1) := by decide +kernel
theorem d_Y_walk_174 : decode prog_8_method_23_code 174 = .ok (.iload 6, 2) := by decide +kernel
theorem d_Y_walk_176 : decode prog_8_method_23_code 176 = .ok (.ishr, 1) := by decide +kernel
theorem d_Y_walk_177 : decode prog_8_method_23_code 177 = .ok (.iconst 1, 1) := by decide +kernel
theorem d_Y_walk_178 : decode prog_8_method_23_code 178 = .ok (.iand, 1) := by decide +kernel
theorem d_Y_walk_179 : decode prog_8_method_23_code 179 = .ok (.iconst 1, 1) := by decide +kernel
theorem d_Y_walk_180 : decode prog_8_method_23_code 180 = .ok (.if_icmp .ne 7, 3) := by decide +kernel
theorem d_Y_walk_183 : decode prog_8_method_23_code 183 = .ok (.iconst 1, 1) := by decide +kernel
theorem d_Y_walk_184 : decode prog_8_method_23_code 184 = .ok (.goto 4, 3) := by decide +kernel
theorem d_Y_walk_187 : decode prog_8_method_23_code 187 = .ok (.iconst 0, 1) := by decide +kernel
theorem d_Y_walk_188 : decode prog_8_method_23_code 188 = .ok (.istore 7, 2) := by decide +kernel
theorem d_Y_walk_190 : decode prog_8_method_23_code 190 = .ok (.aload_n 0, 1) := by decide +kernel
theorem d_Y_walk_191 : decode prog_8_method_23_code 191 = .ok (.getfield 31, 3) := by decide +kernel
theorem d_Y_walk_194 : decode prog_8_method_23_code 194 = .ok (.iconst 0, 1) := by decide +kernel
theorem d_Y_walk_195 : decode prog_8_method_23_code 195 = .ok (.iaload, 1) := by decide +kernel
theorem d_Y_walk_196 : decode prog_8_method_23_code 196 = .ok (.iload 6, 2) := by decide +kernel
theorem d_Y_walk_198 : decode prog_8_method_23_code 198 = .ok (.ishr, 1) := by decide +kernel
theorem d_Y_walk_199 : decode prog_8_method_23_code 199 = .ok (.iconst 1, 1) := by decide +kernel
theorem d_Y_walk_200 : decode prog_8_method_23_code 200 = .ok (.iand, 1) := by decide +kernel
theorem d_Y_walk_201 : decode prog_8_method_23_code 201 = .ok (.iconst 1, 1) := by decide +kernel
theorem d_Y_walk_202 : decode prog_8_method_23_code 202 = .ok (.if_icmp .ne 7, 3) := by decide +kernel
theorem d_Y_walk_205 : decode prog_8_method_23_code 205 = .ok (.iconst 1, 1) := by decide +kernel
theorem d_Y_walk_206 : decode prog_8_method_23_code 206 = .ok (.goto 4, 3) := by decide +kernel
theorem d_Y_walk_209 : decode prog_8_method_23_code 209 = .ok (.iconst 0, 1) := by decide +kernel
theorem d_Y_walk_210 : decode prog_8_method_23_code 210 = .ok (.istore 8, 2) := by decide +kernel
theorem d_Y_walk_212 : decode prog_8_method_23_code 212 = .ok (.iload_n 3, 1) := by decide +kernel
theorem d_Y_walk_213 : decode prog_8_method_23_code 213 = .ok (.iload 6, 2) := by decide +kernel
theorem d_Y_walk_215 : decode prog_8_method_23_code 215 = .ok (.ishr, 1) := by decide +kernel
theorem d_Y_walk_216 : decode prog_8_method_23_code 216 = .ok (.iconst 1, 1) := by decide +kernel
theorem d_Y_walk_217 : decode prog_8_method_23_code 217 = .ok (.iand, 1) := by decide +kernel
theorem d_Y_walk_218 : decode prog_8_method_23_code 218 = .ok (.iconst 1, 1) := by decide +kernel
theorem d_Y_walk_219 : decode prog_8_method_23_code 219 = .ok (.if_icmp .ne 7, 3) := by decide +kernel
theorem d_Y_walk_222 : decode prog_8_method_23_code 222 = .ok (.iconst 1, 1) := by decide +kernel
theorem d_Y_walk_223 : decode prog_8_method_23_code 223 = .ok (.goto 4, 3) := by decide +kernel
theorem d_Y_walk_226 : decode prog_8_method_23_code 226 = .ok (.iconst 0, 1) := by decide +kernel
theorem d_Y_walk_227 : decode prog_8_method_23_code 227 = .ok (.istore 9, 2) := by decide +kernel
theorem d_Y_walk_229 : decode prog_8_method_23_code 229 = .ok (.aload_n 0, 1) := by decide +kernel
theorem d_Y_walk_230 : decode prog_8_method_23_code 230 = .ok (.getfield 34, 3) := by decide +kernel
theorem d_Y_walk_233 : decode prog_8_method_23_code 233 = .ok (.iconst 1, 1) := by decide +kernel
theorem d_Y_walk_234 : decode prog_8_method_23_code 234 = .ok (.dup2, 1) := by decide +kernel
theorem d_Y_walk_235 : decode prog_8_method_23_code 235 = .ok (.iaload, 1) := by decide +kernel
theorem d_Y_walk_236 : decode prog_8_method_23_code 236 = .ok (.iload 7, 2) := by decide +kernel
theorem d_Y_walk_238 : decode prog_8_method_23_code 238 = .ok (.ifCond .ne 8, 3) := by decide +kernel
theorem d_Y_walk_241 : decode prog_8_method_23_code 241 = .ok (.iload 8, 2) := by decide +kernel
theorem d_Y_walk_243 : decode prog_8_method_23_code 243 = .ok (.ifCond .eq 18, 3) := by decide +kernel
theorem d_Y_walk_246 : decode prog_8_method_23_code 246 = .ok (.iload 9, 2) := by decide +kernel
theorem d_Y_walk_248 : decode prog_8_method_23_code 248 = .ok (.ifCond .ne 13, 3) := by decide +kernel
theorem d_Y_walk_251 : decode prog_8_method_23_code 251 = .ok (.aload_n 0, 1) := by decide +kernel
theorem d_Y_walk_252 : decode prog_8_method_23_code 252 = .ok (.getfield 25, 3) := by decide +kernel
theorem d_Y_walk_255 : decode prog_8_method_23_code 255 = .ok (.iload 6, 2) := by decide +kernel
theorem d_Y_walk_257 : decode prog_8_method_23_code 257 = .ok (.iaload, 1) := by decide +kernel
theorem d_Y_walk_258 : decode prog_8_method_23_code 258 = .ok (.goto 4, 3) := by decide +kernel
theorem d_Y_walk_261 : decode prog_8_method_23_code 261 = .ok (.iconst 0, 1) := by decide +kernel
theorem d_Y_walk_262 : decode prog_8_method_23_code 262 = .ok (.ior, 1) := by decide +kernel
theorem d_Y_walk_263 : decode prog_8_method_23_code 263 = .ok (.iastore, 1) := by decide +kernel
theorem d_Y_walk_264 : decode prog_8_method_23_code 264 = .ok (.aload_n 0, 1) := by decide +kernel
theorem d_Y_walk_265 : decode prog_8_method_23_code 265 = .ok (.getfield 34, 3) := by decide +kernel
theorem d_Y_walk_268 : decode prog_8_method_23_code 268 = .ok (.iconst 0, 1) := by decide +kernel
theorem d_Y_walk_269 : decode prog_8_method_23_code 269 = .ok (.dup2, 1) := by decide +kernel
theorem d_Y_walk_270 : decode prog_8_method_23_code 270 = .ok (.iaload, 1) := by decide +kernel
theorem d_Y_walk_271 : decode prog_8_method_23_code 271 = .ok (.iload 8, 2) := by decide +kernel
theorem d_Y_walk_273 : decode prog_8_method_23_code 273 = .ok (.ifCond .eq 8, 3) := by decide +kernel
theorem d_Y_walk_276 : decode prog_8_method_23_code 276 = .ok (.iload 9, 2) := by decide +kernel
theorem d_Y_walk_278 : decode prog_8_method_23_code 278 = .ok (.ifCond .eq 19, 3) := by decide +kernel
theorem d_Y_walk_281 : decode prog_8_method_23_code 281 = .ok (.iload 7, 2) := by decide +kernel
theorem d_Y_walk_283 : decode prog_8_method_23_code 283 = .ok (.ifCond .eq 24, 3) := by decide +kernel
theorem d_Y_walk_286 : decode prog_8_method_23_code 286 = .ok (.iload 4, 2) := by decide +kernel
theorem d_Y_walk_288 : decode prog_8_method_23_code 288 = .ok (.iload 6, 2) := by decide +kernel
theorem d_Y_walk_290 : decode prog_8_method_23_code 290 = .ok (.ishr, 1) := by decide +kernel
theorem d_Y_walk_291 : decode prog_8_method_23_code 291 = .ok (.iconst 1, 1) := by decide +kernel
theorem d_Y_walk_292 : decode prog_8_method_23_code 292 = .ok (.iand, 1) := by decide +kernel
theorem d_Y_walk_293 : decode prog_8_method_23_code 293 = .ok (.iconst 1, 1) := by decide +kernel
theorem d_Y_walk_294 : decode prog_8_method_23_code 294 = .ok (.if_icmp .ne 13, 3) := by decide +kernel
theorem d_Y_walk_297 : decode prog_8_method_23_code 297 = .ok (.aload_n 0, 1) := by decide +kernel
theorem d_Y_walk_298 : decode prog_8_method_23_code 298 = .ok (.getfield 22, 3) := by decide +kernel
theorem d_Y_walk_301 : decode prog_8_method_23_code 301 = .ok (.iload 6, 2) := by decide +kernel
theorem d_Y_walk_303 : decode prog_8_method_23_code 303 = .ok (.iaload, 1) := by decide +kernel
theorem d_Y_walk_304 : decode prog_8_method_23_code 304 = .ok (.goto 4, 3) := by decide +kernel
theorem d_Y_walk_307 : decode prog_8_method_23_code 307 = .ok (.iconst 0, 1) := by decide +kernel
theorem d_Y_walk_308 : decode prog_8_method_23_code 308 = .ok (.ior, 1) := by decide +kernel
theorem d_Y_walk_309 : decode prog_8_method_23_code 309 = .ok (.iastore, 1) := by decide +kernel
theorem d_Y_walk_310 : decode prog_8_method_23_code 310 = .ok (.iinc 6 1, 3) := by decide +kernel
theorem d_Y_walk_313 : decode prog_8_method_23_code 313 = .ok (.goto (-154), 3) := by decide +kernel
theorem d_Y_walk_316 : decode prog_8_method_23_code 316 = .ok (.aload_n 0, 1) := by decide +kernel
theorem d_Y_walk_317 : decode prog_8_method_23_code 317 = .ok (.getfield 31, 3) := by decide +kernel
theorem d_Y_walk_320 : decode prog_8_method_23_code 320 = .ok (.iconst 0, 1) := by decide +kernel
theorem d_Y_walk_321 : decode prog_8_method_23_code 321 = .ok (.aload_n 0, 1) := by decide +kernel
theorem d_Y_walk_322 : decode prog_8_method_23_code 322 = .ok (.getfield 34, 3) := by decide +kernel
theorem d_Y_walk_325 : decode prog_8_method_23_code 325 = .ok (.iconst 0, 1) := by decide +kernel
theorem d_Y_walk_326 : decode prog_8_method_23_code 326 = .ok (.iaload, 1) := by decide +kernel
theorem d_Y_walk_327 : decode prog_8_method_23_code 327 = .ok (.aload_n 0, 1) := by decide +kernel
theorem d_Y_walk_328 : decode prog_8_method_23_code 328 = .ok (.getfield 37, 3) := by decide +kernel
theorem d_Y_walk_331 : decode prog_8_method_23_code 331 = .ok (.iconst 0, 1) := by decide +kernel
theorem d_Y_walk_332 : decode prog_8_method_23_code 332 = .ok (.iaload, 1) := by decide +kernel
theorem d_Y_walk_333 : decode prog_8_method_23_code 333 = .ok (.iconst (-1), 1) := by decide +kernel
theorem d_Y_walk_334 : decode prog_8_method_23_code 334 = .ok (.ixor, 1) := by decide +kernel
theorem d_Y_walk_335 : decode prog_8_method_23_code 335 = .ok (.iand, 1) := by decide +kernel
theorem d_Y_walk_336 : decode prog_8_method_23_code 336 = .ok (.iastore, 1) := by decide +kernel
theorem d_Y_walk_337 : decode prog_8_method_23_code 337 = .ok (.aload_n 0, 1) := by decide +kernel
theorem d_Y_walk_338 : decode prog_8_method_23_code 338 = .ok (.getfield 31, 3) := by decide +kernel
theorem d_Y_walk_341 : decode prog_8_method_23_code 341 = .ok (.iconst 1, 1) := by decide +kernel
theorem d_Y_walk_342 : decode prog_8_method_23_code 342 = .ok (.aload_n 0, 1) := by decide +kernel
theorem d_Y_walk_343 : decode prog_8_method_23_code 343 = .ok (.getfield 34, 3) := by decide +kernel
theorem d_Y_walk_346 : decode prog_8_method_23_code 346 = .ok (.iconst 1, 1) := by decide +kernel
theorem d_Y_walk_347 : decode prog_8_method_23_code 347 = .ok (.iaload, 1) := by decide +kernel
theorem d_Y_walk_348 : decode prog_8_method_23_code 348 = .ok (.aload_n 0, 1) := by decide +kernel
theorem d_Y_walk_349 : decode prog_8_method_23_code 349 = .ok (.getfield 37, 3) := by decide +kernel
theorem d_Y_walk_352 : decode prog_8_method_23_code 352 = .ok (.iconst 1, 1) := by decide +kernel
theorem d_Y_walk_353 : decode prog_8_method_23_code 353 = .ok (.iaload, 1) := by decide +kernel
theorem d_Y_walk_354 : decode prog_8_method_23_code 354 = .ok (.iconst (-1), 1) := by decide +kernel
theorem d_Y_walk_355 : decode prog_8_method_23_code 355 = .ok (.ixor, 1) := by decide +kernel
theorem d_Y_walk_356 : decode prog_8_method_23_code 356 = .ok (.iand, 1) := by decide +kernel
theorem d_Y_walk_357 : decode prog_8_method_23_code 357 = .ok (.iastore, 1) := by decide +kernel
theorem d_Y_walk_358 : decode prog_8_method_23_code 358 = .ok (.iinc 5 1, 3) := by decide +kernel
theorem d_Y_walk_361 : decode prog_8_method_23_code 361 = .ok (.goto (-291), 3) := by decide +kernel
theorem d_Y_walk_364 : decode prog_8_method_23_code 364 = .ok (.iconst (-1), 1) := by decide +kernel
theorem d_Y_walk_365 : decode prog_8_method_23_code 365 = .ok (.ireturn, 1) := by decide +kernel
theorem d_Y_children2_0 : decode prog_8_method_24_code 0 = .ok (.iload_n 2, 1) := by decide +kernel
theorem d_Y_children2_1 : decode prog_8_method_24_code 1 = .ok (.iconst 1, 1) := by decide +kernel
theorem d_Y_children2_2 : decode prog_8_method_24_code 2 = .ok (.if_icmp .ne 12, 3) := by decide +kernel
theorem d_Y_children2_5 : decode prog_8_method_24_code 5 = .ok (.aload_n 0, 1) := by decide +kernel
theorem d_Y_children2_6 : decode prog_8_method_24_code 6 = .ok (.getfield 25, 3) := by decide +kernel
theorem d_Y_children2_9 : decode prog_8_method_24_code 9 = .ok (.iload_n 1, 1) := by decide +kernel
theorem d_Y_children2_10 : decode prog_8_method_24_code 10 = .ok (.iaload, 1) := by decide +kernel
theorem d_Y_children2_11 : decode prog_8_method_24_code 11 = .ok (.goto 9, 3) := by decide +kernel
theorem d_Y_children2_14 : decode prog_8_method_24_code 14 = .ok (.aload_n 0, 1) := by decide +kernel
theorem d_Y_children2_15 : decode prog_8_method_24_code 15 = .ok (.getfield 22, 3) := by decide +kernel
theorem d_Y_children2_18 : decode prog_8_method_24_code 18 = .ok (.iload_n 1, 1) := by decide +kernel
theorem d_Y_children2_19 : decode prog_8_method_24_code 19 = .ok (.iaload, 1) := by decide +kernel
theorem d_Y_children2_20 : decode prog_8_method_24_code 20 = .ok (.ireturn, 1) := by decide +kernel
theorem d_Y_weight_0 : decode prog_8_method_26_code 0 = .ok (.aload_n 0, 1) := by decide +kernel
theorem d_Y_weight_1 : decode prog_8_method_26_code 1 = .ok (.iload_n 1, 1) := by decide +kernel
theorem d_Y_weight_2 : decode prog_8_method_26_code 2 = .ok (.invokevirtual 81, 3) := by decide +kernel
theorem d_Y_weight_5 : decode prog_8_method_26_code 5 = .ok (.ifCond .eq 11, 3) := by decide +kernel
theorem d_Y_weight_8 : decode prog_8_method_26_code 8 = .ok (.aload_n 0, 1) := by decide +kernel
theorem d_Y_weight_9 : decode prog_8_method_26_code 9 = .ok (.iload_n 2, 1) := by decide +kernel
theorem d_Y_weight_10 : decode prog_8_method_26_code 10 = .ok (.invokevirtual 81, 3) := by decide +kernel
theorem d_Y_weight_13 : decode prog_8_method_26_code 13 = .ok (.ifCond .ne 7, 3) := by decide +kernel
theorem d_Y_weight_16 : decode prog_8_method_26_code 16 = .ok (.ldc2_w 123, 3) := by decide +kernel
theorem d_Y_weight_19 : decode prog_8_method_26_code 19 = .ok (.lreturn, 1) := by decide +kernel
theorem d_Y_weight_20 : decode prog_8_method_26_code 20 = .ok (.aload_n 0, 1) := by decide +kernel
theorem d_Y_weight_21 : decode prog_8_method_26_code 21 = .ok (.invokevirtual 125, 3) := by decide +kernel
theorem d_Y_weight_24 : decode prog_8_method_26_code 24 = .ok (.lconst 0, 1) := by decide +kernel
theorem d_Y_weight_25 : decode prog_8_method_26_code 25 = .ok (.lstore_n 3, 1) := by decide +kernel
theorem d_Y_weight_26 : decode prog_8_method_26_code 26 = .ok (.iconst 0, 1) := by decide +kernel
theorem d_Y_weight_27 : decode prog_8_method_26_code 27 = .ok (.istore 5, 2) := by decide +kernel
theorem d_Y_weight_29 : decode prog_8_method_26_code 29 = .ok (.iload 5, 2) := by decide +kernel
theorem d_Y_weight_31 : decode prog_8_method_26_code 31 = .ok (.iconst 1, 1) := by decide +kernel
theorem d_Y_weight_32 : decode prog_8_method_26_code 32 = .ok (.aload_n 0, 1) := by decide +kernel
theorem d_Y_weight_33 : decode prog_8_method_26_code 33 = .ok (.getfield 63, 3) := by decide +kernel
theorem d_Y_weight_36 : decode prog_8_method_26_code 36 = .ok (.ishl, 1) := by decide +kernel
theorem d_Y_weight_37 : decode prog_8_method_26_code 37 = .ok (.if_icmp .ge 32, 3) := by decide +kernel
theorem d_Y_weight_40 : decode prog_8_method_26_code 40 = .ok (.lload_n 3, 1) := by decide +kernel
theorem d_Y_weight_41 : decode prog_8_method_26_code 41 = .ok (.iload 5, 2) := by decide +kernel
theorem d_Y_weight_43 : decode prog_8_method_26_code 43 = .ok (.iload_n 2, 1) := by decide +kernel
theorem d_Y_weight_44 : decode prog_8_method_26_code 44 = .ok (.ixor, 1) := by decide +kernel
theorem d_Y_weight_45 : decode prog_8_method_26_code 45 = .ok (.iload_n 1, 1) := by decide +kernel
theorem d_Y_weight_46 : decode prog_8_method_26_code 46 = .ok (.iand, 1) := by decide +kernel
theorem d_Y_weight_47 : decode prog_8_method_26_code 47 = .ok (.ifCond .ne 13, 3) := by decide +kernel
theorem d_Y_weight_50 : decode prog_8_method_26_code 50 = .ok (.aload_n 0, 1) := by decide +kernel
theorem d_Y_weight_51 : decode prog_8_method_26_code 51 = .ok (.getfield 40, 3) := by decide +kernel
theorem d_Y_weight_54 : decode prog_8_method_26_code 54 = .ok (.iload 5, 2) := by decide +kernel
theorem d_Y_weight_56 : decode prog_8_method_26_code 56 = .ok (.laload, 1) := by decide +kernel
theorem d_Y_weight_57 : decode prog_8_method_26_code 57 = .ok (.goto 4, 3) := by decide +kernel
theorem d_Y_weight_60 : decode prog_8_method_26_code 60 = .ok (.lconst 0, 1) := by decide +kernel
theorem d_Y_weight_61 : decode prog_8_method_26_code 61 = .ok (.ladd, 1) := by decide +kernel
theorem d_Y_weight_62 : decode prog_8_method_26_code 62 = .ok (.lstore_n 3, 1) := by decide +kernel
theorem d_Y_weight_63 : decode prog_8_method_26_code 63 = .ok (.iinc 5 1, 3) := by decide +kernel
theorem d_Y_weight_66 : decode prog_8_method_26_code 66 = .ok (.goto (-37), 3) := by decide +kernel
theorem d_Y_weight_69 : decode prog_8_method_26_code 69 = .ok (.lload_n 3, 1) := by decide +kernel
theorem d_Y_weight_70 : decode prog_8_method_26_code 70 = .ok (.lreturn, 1) := by decide +kernel
theorem d_Y_weigh_0 : decode prog_8_method_25_code 0 = .ok (.iconst 0, 1) := by decide +kernel
theorem d_Y_weigh_1 : decode prog_8_method_25_code 1 = .ok (.istore_n 1, 1) := by decide +kernel
theorem d_Y_weigh_2 : decode prog_8_method_25_code 2 = .ok (.iload_n 1, 1) := by decide +kernel
theorem d_Y_weigh_3 : decode prog_8_method_25_code 3 = .ok (.iconst 1, 1) := by decide +kernel
theorem d_Y_weigh_4 : decode prog_8_method_25_code 4 = .ok (.aload_n 0, 1) := by decide +kernel
theorem d_Y_weigh_5 : decode prog_8_method_25_code 5 = .ok (.getfield 63, 3) := by decide +kernel
theorem d_Y_weigh_8 : decode prog_8_method_25_code 8 = .ok (.ishl, 1) := by decide +kernel
theorem d_Y_weigh_9 : decode prog_8_method_25_code 9 = .ok (.if_icmp .ge 169, 3) := by decide +kernel
theorem d_Y_weigh_12 : decode prog_8_method_25_code 12 = .ok (.lconst 1, 1) := by decide +kernel
theorem d_Y_weigh_13 : decode prog_8_method_25_code 13 = .ok (.lstore_n 2, 1) := by decide +kernel
theorem d_Y_weigh_14 : decode prog_8_method_25_code 14 = .ok (.iconst 0, 1) := by decide +kernel
theorem d_Y_weigh_15 : decode prog_8_method_25_code 15 = .ok (.istore 4, 2) := by decide +kernel
theorem d_Y_weigh_17 : decode prog_8_method_25_code 17 = .ok (.iload 4, 2) := by decide +kernel
theorem d_Y_weigh_19 : decode prog_8_method_25_code 19 = .ok (.aload_n 0, 1) := by decide +kernel
theorem d_Y_weigh_20 : decode prog_8_method_25_code 20 = .ok (.getfield 63, 3) := by decide +kernel
theorem d_Y_weigh_23 : decode prog_8_method_25_code 23 = .ok (.if_icmp .ge 142, 3) := by decide +kernel
theorem d_Y_weigh_26 : decode prog_8_method_25_code 26 = .ok (.iload_n 1, 1) := by decide +kernel
theorem d_Y_weigh_27 : decode prog_8_method_25_code 27 = .ok (.iload 4, 2) := by decide +kernel
theorem d_Y_weigh_29 : decode prog_8_method_25_code 29 = .ok (.ishr, 1) := by decide +kernel
theorem d_Y_weigh_30 : decode prog_8_method_25_code 30 = .ok (.iconst 1, 1) := by decide +kernel
theorem d_Y_weigh_31 : decode prog_8_method_25_code 31 = .ok (.iand, 1) := by decide +kernel
theorem d_Y_weigh_32 : decode prog_8_method_25_code 32 = .ok (.istore 5, 2) := by decide +kernel
theorem d_Y_weigh_34 : decode prog_8_method_25_code 34 = .ok (.aload_n 0, 1) := by decide +kernel
theorem d_Y_weigh_35 : decode prog_8_method_25_code 35 = .ok (.getfield 13, 3) := by decide +kernel
theorem d_Y_weigh_38 : decode prog_8_method_25_code 38 = .ok (.iload 4, 2) := by decide +kernel
theorem d_Y_weigh_40 : decode prog_8_method_25_code 40 = .ok (.iaload, 1) := by decide +kernel
theorem d_Y_weigh_41 : decode prog_8_method_25_code 41 = .ok (.iconst (-1), 1) := by decide +kernel
theorem d_Y_weigh_42 : decode prog_8_method_25_code 42 = .ok (.if_icmp .eq 28, 3) := by decide +kernel
theorem d_Y_weigh_45 : decode prog_8_method_25_code 45 = .ok (.lload_n 2, 1) := by decide +kernel
theorem d_Y_weigh_46 : decode prog_8_method_25_code 46 = .ok (.aload_n 0, 1) := by decide +kernel
theorem d_Y_weigh_47 : decode prog_8_method_25_code 47 = .ok (.getfield 13, 3) := by decide +kernel
theorem d_Y_weigh_50 : decode prog_8_method_25_code 50 = .ok (.iload 4, 2) := by decide +kernel
theorem d_Y_weigh_52 : decode prog_8_method_25_code 52 = .ok (.iaload, 1) := by decide +kernel
theorem d_Y_weigh_53 : decode prog_8_method_25_code 53 = .ok (.iload 5, 2) := by decide +kernel
theorem d_Y_weigh_55 : decode prog_8_method_25_code 55 = .ok (.if_icmp .ne 9, 3) := by decide +kernel
theorem d_Y_weigh_58 : decode prog_8_method_25_code 58 = .ok (.ldc2_w 121, 3) := by decide +kernel
theorem d_Y_weigh_61 : decode prog_8_method_25_code 61 = .ok (.goto 4, 3) := by decide +kernel
theorem d_Y_weigh_64 : decode prog_8_method_25_code 64 = .ok (.lconst 0, 1) := by decide +kernel
theorem d_Y_weigh_65 : decode prog_8_method_25_code 65 = .ok (.lmul, 1) := by decide +kernel
theorem d_Y_weigh_66 : decode prog_8_method_25_code 66 = .ok (.lstore_n 2, 1) := by decide +kernel
theorem d_Y_weigh_67 : decode prog_8_method_25_code 67 = .ok (.goto 92, 3) := by decide +kernel
theorem d_Y_weigh_70 : decode prog_8_method_25_code 70 = .ok (.iconst 0, 1) := by decide +kernel
theorem d_Y_weigh_71 : decode prog_8_method_25_code 71 = .ok (.istore 6, 2) := by decide +kernel
theorem d_Y_weigh_73 : decode prog_8_method_25_code 73 = .ok (.iconst 0, 1) := by decide +kernel
theorem d_Y_weigh_74 : decode prog_8_method_25_code 74 = .ok (.istore 7, 2) := by decide +kernel
theorem d_Y_weigh_76 : decode prog_8_method_25_code 76 = .ok (.iconst 0, 1) := by decide +kernel
theorem d_Y_weigh_77 : decode prog_8_method_25_code 77 = .ok (.istore 8, 2) := by decide +kernel
theorem d_Y_weigh_79 : decode prog_8_method_25_code 79 = .ok (.iload 8, 2) := by decide +kernel
theorem d_Y_weigh_81 : decode prog_8_method_25_code 81 = .ok (.aload_n 0, 1) := by decide +kernel
theorem d_Y_weigh_82 : decode prog_8_method_25_code 82 = .ok (.getfield 63, 3) := by decide +kernel
theorem d_Y_weigh_85 : decode prog_8_method_25_code 85 = .ok (.if_icmp .ge 37, 3) := by decide +kernel
theorem d_Y_weigh_88 : decode prog_8_method_25_code 88 = .ok (.aload_n 0, 1) := by decide +kernel
theorem d_Y_weigh_89 : decode prog_8_method_25_code 89 = .ok (.iload 8, 2) := by decide +kernel
theorem d_Y_weigh_91 : decode prog_8_method_25_code 91 = .ok (.iload 4, 2) := by decide +kernel
theorem d_Y_weigh_93 : decode prog_8_method_25_code 93 = .ok (.invokevirtual 92, 3) := by decide +kernel
theorem d_Y_weigh_96 : decode prog_8_method_25_code 96 = .ok (.ifCond .eq 20, 3) := by decide +kernel
theorem d_Y_weigh_99 : decode prog_8_method_25_code 99 = .ok (.iload 6, 2) := by decide +kernel
theorem d_Y_weigh_101 : decode prog_8_method_25_code 101 = .ok (.iload_n 1, 1) := by decide +kernel
theorem d_Y_weigh_102 : decode prog_8_method_25_code 102 = .ok (.iload 8, 2) := by decide +kernel
theorem d_Y_weigh_104 : decode prog_8_method_25_code 104 = .ok (.ishr, 1) := by decide +kernel
theorem d_Y_weigh_105 : decode prog_8_method_25_code 105 = .ok (.iconst 1, 1) := by decide +kernel
theorem d_Y_weigh_106 : decode prog_8_method_25_code 106 = .ok (.iand, 1) := by decide +kernel
theorem d_Y_weigh_107 : decode prog_8_method_25_code 107 = .ok (.iload 7, 2) := by decide +kernel
theorem d_Y_weigh_109 : decode prog_8_method_25_code 109 = .ok (.ishl, 1) := by decide +kernel
theorem d_Y_weigh_110 : decode prog_8_method_25_code 110 = .ok (.ior, 1) := by decide +kernel
theorem d_Y_weigh_111 : decode prog_8_method_25_code 111 = .ok (.istore 6, 2) := by decide +kernel
theorem d_Y_weigh_113 : decode prog_8_method_25_code 113 = .ok (.iinc 7 1, 3) := by decide +kernel
theorem d_Y_weigh_116 : decode prog_8_method_25_code 116 = .ok (.iinc 8 1, 3) := by decide +kernel
theorem d_Y_weigh_119 : decode prog_8_method_25_code 119 = .ok (.goto (-40), 3) := by decide +kernel
theorem d_Y_weigh_122 : decode prog_8_method_25_code 122 = .ok (.aload_n 0, 1) := by decide +kernel
theorem d_Y_weigh_123 : decode prog_8_method_25_code 123 = .ok (.getfield 16, 3) := by decide +kernel
theorem d_Y_weigh_126 : decode prog_8_method_25_code 126 = .ok (.sipush 128, 3) := by decide +kernel
theorem d_Y_weigh_129 : decode prog_8_method_25_code 129 = .ok (.iload 4, 2) := by decide +kernel
theorem d_Y_weigh_131 : decode prog_8_method_25_code 131 = .ok (.imul, 1) := by decide +kernel
theorem d_Y_weigh_132 : decode prog_8_method_25_code 132 = .ok (.iload 6, 2) := by decide +kernel
theorem d_Y_weigh_134 : decode prog_8_method_25_code 134 = .ok (.iadd, 1) := by decide +kernel
theorem d_Y_weigh_135 : decode prog_8_method_25_code 135 = .ok (.iaload, 1) := by decide +kernel
theorem d_Y_weigh_136 : decode prog_8_method_25_code 136 = .ok (.istore 8, 2) := by decide +kernel
theorem d_Y_weigh_138 : decode prog_8_method_25_code 138 = .ok (.lload_n 2, 1) := by decide +kernel
theorem d_Y_weigh_139 : decode prog_8_method_25_code 139 = .ok (.iload 5, 2) := by decide +kernel
theorem d_Y_weigh_141 : decode prog_8_method_25_code 141 = .ok (.iconst 1, 1) := by decide +kernel
theorem d_Y_weigh_142 : decode prog_8_method_25_code 142 = .ok (.if_icmp .ne 9, 3) := by decide +kernel
theorem d_Y_weigh_145 : decode prog_8_method_25_code 145 = .ok (.iload 8, 2) := by decide +kernel
theorem d_Y_weigh_147 : decode prog_8_method_25_code 147 = .ok (.i2l, 1) := by decide +kernel
theorem d_Y_weigh_148 : decode prog_8_method_25_code 148 = .ok (.goto 9, 3) := by decide +kernel
theorem d_Y_weigh_151 : decode prog_8_method_25_code 151 = .ok (.bipush 8, 2) := by decide +kernel
theorem d_Y_weigh_153 : decode prog_8_method_25_code 153 = .ok (.iload 8, 2) := by decide +kernel
theorem d_Y_weigh_155 : decode prog_8_method_25_code 155 = .ok (.isub, 1) := by decide +kernel
theorem d_Y_weigh_156 : decode prog_8_method_25_code 156 = .ok (.i2l, 1) := by decide +kernel
theorem d_Y_weigh_157 : decode prog_8_method_25_code 157 = .ok (.lmul, 1) := by decide +kernel
theorem d_Y_weigh_158 : decode prog_8_method_25_code 158 = .ok (.lstore_n 2, 1) := by decide +kernel
theorem d_Y_weigh_159 : decode prog_8_method_25_code 159 = .ok (.iinc 4 1, 3) := by decide +kernel
theorem d_Y_weigh_162 : decode prog_8_method_25_code 162 = .ok (.goto (-145), 3) := by decide +kernel
theorem d_Y_weigh_165 : decode prog_8_method_25_code 165 = .ok (.aload_n 0, 1) := by decide +kernel
theorem d_Y_weigh_166 : decode prog_8_method_25_code 166 = .ok (.getfield 40, 3) := by decide +kernel
theorem d_Y_weigh_169 : decode prog_8_method_25_code 169 = .ok (.iload_n 1, 1) := by decide +kernel
theorem d_Y_weigh_170 : decode prog_8_method_25_code 170 = .ok (.lload_n 2, 1) := by decide +kernel
theorem d_Y_weigh_171 : decode prog_8_method_25_code 171 = .ok (.lastore, 1) := by decide +kernel
theorem d_Y_weigh_172 : decode prog_8_method_25_code 172 = .ok (.iinc 1 1, 3) := by decide +kernel
theorem d_Y_weigh_175 : decode prog_8_method_25_code 175 = .ok (.goto (-173), 3) := by decide +kernel
theorem d_Y_weigh_178 : decode prog_8_method_25_code 178 = .ok (.return_, 1) := by decide +kernel
theorem d_Y_independent_0 : decode prog_8_method_28_code 0 = .ok (.aload_n 0, 1) := by decide +kernel
theorem d_Y_independent_1 : decode prog_8_method_28_code 1 = .ok (.iload_n 1, 1) := by decide +kernel
theorem d_Y_independent_2 : decode prog_8_method_28_code 2 = .ok (.iload_n 2, 1) := by decide +kernel
theorem d_Y_independent_3 : decode prog_8_method_28_code 3 = .ok (.iload_n 3, 1) := by decide +kernel
theorem d_Y_independent_4 : decode prog_8_method_28_code 4 = .ok (.invokevirtual 109, 3) := by decide +kernel
theorem d_Y_independent_7 : decode prog_8_method_28_code 7 = .ok (.ifCond .ne 6, 3) := by decide +kernel
theorem d_Y_independent_10 : decode prog_8_method_28_code 10 = .ok (.bipush (-2), 2) := by decide +kernel
theorem d_Y_independent_12 : decode prog_8_method_28_code 12 = .ok (.ireturn, 1) := by decide +kernel
theorem d_Y_independent_13 : decode prog_8_method_28_code 13 = .ok (.aload_n 0, 1) := by decide +kernel
theorem d_Y_independent_14 : decode prog_8_method_28_code 14 = .ok (.iload_n 1, 1) := by decide +kernel
theorem d_Y_independent_15 : decode prog_8_method_28_code 15 = .ok (.iload_n 2, 1) := by decide +kernel
theorem d_Y_independent_16 : decode prog_8_method_28_code 16 = .ok (.iload_n 3, 1) := by decide +kernel
theorem d_Y_independent_17 : decode prog_8_method_28_code 17 = .ok (.invokevirtual 128, 3) := by decide +kernel
theorem d_Y_independent_20 : decode prog_8_method_28_code 20 = .ok (.iconst (-1), 1) := by decide +kernel
theorem d_Y_independent_21 : decode prog_8_method_28_code 21 = .ok (.if_icmp .ne 7, 3) := by decide +kernel
theorem d_Y_independent_24 : decode prog_8_method_28_code 24 = .ok (.iconst 1, 1) := by decide +kernel
theorem d_Y_independent_25 : decode prog_8_method_28_code 25 = .ok (.goto 4, 3) := by decide +kernel
theorem d_Y_independent_28 : decode prog_8_method_28_code 28 = .ok (.iconst 0, 1) := by decide +kernel
theorem d_Y_independent_29 : decode prog_8_method_28_code 29 = .ok (.ireturn, 1) := by decide +kernel
theorem d_Y_hangs_0 : decode prog_8_method_27_code 0 = .ok (.aload_n 0, 1) := by decide +kernel
theorem d_Y_hangs_1 : decode prog_8_method_27_code 1 = .ok (.invokevirtual 125, 3) := by decide +kernel
theorem d_Y_hangs_4 : decode prog_8_method_27_code 4 = .ok (.iload_n 3, 1) := by decide +kernel
theorem d_Y_hangs_5 : decode prog_8_method_27_code 5 = .ok (.iconst 1, 1) := by decide +kernel
theorem d_Y_hangs_6 : decode prog_8_method_27_code 6 = .ok (.iload_n 1, 1) := by decide +kernel
theorem d_Y_hangs_7 : decode prog_8_method_27_code 7 = .ok (.ishl, 1) := by decide +kernel
theorem d_Y_hangs_8 : decode prog_8_method_27_code 8 = .ok (.ior, 1) := by decide +kernel
theorem d_Y_hangs_9 : decode prog_8_method_27_code 9 = .ok (.istore 4, 2) := by decide +kernel
theorem d_Y_hangs_11 : decode prog_8_method_27_code 11 = .ok (.iload_n 3, 1) := by decide +kernel
theorem d_Y_hangs_12 : decode prog_8_method_27_code 12 = .ok (.iconst 1, 1) := by decide +kernel
theorem d_Y_hangs_13 : decode prog_8_method_27_code 13 = .ok (.iload_n 2, 1) := by decide +kernel
theorem d_Y_hangs_14 : decode prog_8_method_27_code 14 = .ok (.ishl, 1) := by decide +kernel
theorem d_Y_hangs_15 : decode prog_8_method_27_code 15 = .ok (.ior, 1) := by decide +kernel
theorem d_Y_hangs_16 : decode prog_8_method_27_code 16 = .ok (.istore 5, 2) := by decide +kernel
theorem d_Y_hangs_18 : decode prog_8_method_27_code 18 = .ok (.iload 4, 2) := by decide +kernel
theorem d_Y_hangs_20 : decode prog_8_method_27_code 20 = .ok (.iload 5, 2) := by decide +kernel
theorem d_Y_hangs_22 : decode prog_8_method_27_code 22 = .ok (.ior, 1) := by decide +kernel
theorem d_Y_hangs_23 : decode prog_8_method_27_code 23 = .ok (.istore 6, 2) := by decide +kernel
theorem d_Y_hangs_25 : decode prog_8_method_27_code 25 = .ok (.iconst 0, 1) := by decide +kernel
theorem d_Y_hangs_26 : decode prog_8_method_27_code 26 = .ok (.istore 7, 2) := by decide +kernel
theorem d_Y_hangs_28 : decode prog_8_method_27_code 28 = .ok (.iload 7, 2) := by decide +kernel
theorem d_Y_hangs_30 : decode prog_8_method_27_code 30 = .ok (.sipush 1024, 3) := by decide +kernel
theorem d_Y_hangs_33 : decode prog_8_method_27_code 33 = .ok (.if_icmp .ge 17, 3) := by decide +kernel
theorem d_Y_hangs_36 : decode prog_8_method_27_code 36 = .ok (.aload_n 0, 1) := by decide +kernel
theorem d_Y_hangs_37 : decode prog_8_method_27_code 37 = .ok (.getfield 44, 3) := by decide +kernel
theorem d_Y_hangs_40 : decode prog_8_method_27_code 40 = .ok (.iload 7, 2) := by decide +kernel
theorem d_Y_hangs_42 : decode prog_8_method_27_code 42 = .ok (.lconst 0, 1) := by decide +kernel
theorem d_Y_hangs_43 : decode prog_8_method_27_code 43 = .ok (.lastore, 1) := by decide +kernel
theorem d_Y_hangs_44 : decode prog_8_method_27_code 44 = .ok (.iinc 7 1, 3) := by decide +kernel
theorem d_Y_hangs_47 : decode prog_8_method_27_code 47 = .ok (.goto (-19), 3) := by decide +kernel
theorem d_Y_hangs_50 : decode prog_8_method_27_code 50 = .ok (.iconst 0, 1) := by decide +kernel
theorem d_Y_hangs_51 : decode prog_8_method_27_code 51 = .ok (.istore 7, 2) := by decide +kernel
theorem d_Y_hangs_53 : decode prog_8_method_27_code 53 = .ok (.iload 7, 2) := by decide +kernel
theorem d_Y_hangs_55 : decode prog_8_method_27_code 55 = .ok (.iconst 1, 1) := by decide +kernel
theorem d_Y_hangs_56 : decode prog_8_method_27_code 56 = .ok (.aload_n 0, 1) := by decide +kernel
theorem d_Y_hangs_57 : decode prog_8_method_27_code 57 = .ok (.getfield 63, 3) := by decide +kernel
theorem d_Y_hangs_60 : decode prog_8_method_27_code 60 = .ok (.ishl, 1) := by decide +kernel
theorem d_Y_hangs_61 : decode prog_8_method_27_code 61 = .ok (.if_icmp .ge 100, 3) := by decide +kernel
theorem d_Y_hangs_64 : decode prog_8_method_27_code 64 = .ok (.aload_n 0, 1) := by decide +kernel
theorem d_Y_hangs_65 : decode prog_8_method_27_code 65 = .ok (.getfield 44, 3) := by decide +kernel
theorem d_Y_hangs_68 : decode prog_8_method_27_code 68 = .ok (.iload 7, 2) := by decide +kernel
theorem d_Y_hangs_70 : decode prog_8_method_27_code 70 = .ok (.iload 6, 2) := by decide +kernel
theorem d_Y_hangs_72 : decode prog_8_method_27_code 72 = .ok (.iand, 1) := by decide +kernel
theorem d_Y_hangs_73 : decode prog_8_method_27_code 73 = .ok (.dup2, 1) := by decide +kernel
theorem d_Y_hangs_74 : decode prog_8_method_27_code 74 = .ok (.laload, 1) := by decide +kernel
theorem d_Y_hangs_75 : decode prog_8_method_27_code 75 = .ok (.aload_n 0, 1) := by decide +kernel
theorem d_Y_hangs_76 : decode prog_8_method_27_code 76 = .ok (.getfield 40, 3) := by decide +kernel
theorem d_Y_hangs_79 : decode prog_8_method_27_code 79 = .ok (.iload 7, 2) := by decide +kernel
theorem d_Y_hangs_81 : decode prog_8_method_27_code 81 = .ok (.laload, 1) := by decide +kernel
theorem d_Y_hangs_82 : decode prog_8_method_27_code 82 = .ok (.ladd, 1) := by decide +kernel
theorem d_Y_hangs_83 : decode prog_8_method_27_code 83 = .ok (.lastore, 1) := by decide +kernel
theorem d_Y_hangs_84 : decode prog_8_method_27_code 84 = .ok (.aload_n 0, 1) := by decide +kernel
theorem d_Y_hangs_85 : decode prog_8_method_27_code 85 = .ok (.getfield 44, 3) := by decide +kernel
theorem d_Y_hangs_88 : decode prog_8_method_27_code 88 = .ok (.sipush 256, 3) := by decide +kernel
theorem d_Y_hangs_91 : decode prog_8_method_27_code 91 = .ok (.iload 7, 2) := by decide +kernel
theorem d_Y_hangs_93 : decode prog_8_method_27_code 93 = .ok (.iload_n 3, 1) := by decide +kernel
theorem d_Y_hangs_94 : decode prog_8_method_27_code 94 = .ok (.iand, 1) := by decide +kernel
theorem d_Y_hangs_95 : decode prog_8_method_27_code 95 = .ok (.iadd, 1) := by decide +kernel
theorem d_Y_hangs_96 : decode prog_8_method_27_code 96 = .ok (.dup2, 1) := by decide +kernel
theorem d_Y_hangs_97 : decode prog_8_method_27_code 97 = .ok (.laload, 1) := by decide +kernel
theorem d_Y_hangs_98 : decode prog_8_method_27_code 98 = .ok (.aload_n 0, 1) := by decide +kernel
theorem d_Y_hangs_99 : decode prog_8_method_27_code 99 = .ok (.getfield 40, 3) := by decide +kernel
theorem d_Y_hangs_102 : decode prog_8_method_27_code 102 = .ok (.iload 7, 2) := by decide +kernel
theorem d_Y_hangs_104 : decode prog_8_method_27_code 104 = .ok (.laload, 1) := by decide +kernel
theorem d_Y_hangs_105 : decode prog_8_method_27_code 105 = .ok (.ladd, 1) := by decide +kernel
theorem d_Y_hangs_106 : decode prog_8_method_27_code 106 = .ok (.lastore, 1) := by decide +kernel
theorem d_Y_hangs_107 : decode prog_8_method_27_code 107 = .ok (.aload_n 0, 1) := by decide +kernel
theorem d_Y_hangs_108 : decode prog_8_method_27_code 108 = .ok (.getfield 44, 3) := by decide +kernel
theorem d_Y_hangs_111 : decode prog_8_method_27_code 111 = .ok (.sipush 512, 3) := by decide +kernel
theorem d_Y_hangs_114 : decode prog_8_method_27_code 114 = .ok (.iload 7, 2) := by decide +kernel
theorem d_Y_hangs_116 : decode prog_8_method_27_code 116 = .ok (.iload 4, 2) := by decide +kernel
theorem d_Y_hangs_118 : decode prog_8_method_27_code 118 = .ok (.iand, 1) := by decide +kernel
theorem d_Y_hangs_119 : decode prog_8_method_27_code 119 = .ok (.iadd, 1) := by decide +kernel
theorem d_Y_hangs_120 : decode prog_8_method_27_code 120 = .ok (.dup2, 1) := by decide +kernel
theorem d_Y_hangs_121 : decode prog_8_method_27_code 121 = .ok (.laload, 1) := by decide +kernel
theorem d_Y_hangs_122 : decode prog_8_method_27_code 122 = .ok (.aload_n 0, 1) := by decide +kernel
theorem d_Y_hangs_123 : decode prog_8_method_27_code 123 = .ok (.getfield 40, 3) := by decide +kernel
theorem d_Y_hangs_126 : decode prog_8_method_27_code 126 = .ok (.iload 7, 2) := by decide +kernel
theorem d_Y_hangs_128 : decode prog_8_method_27_code 128 = .ok (.laload, 1) := by decide +kernel
theorem d_Y_hangs_129 : decode prog_8_method_27_code 129 = .ok (.ladd, 1) := by decide +kernel
theorem d_Y_hangs_130 : decode prog_8_method_27_code 130 = .ok (.lastore, 1) := by decide +kernel
theorem d_Y_hangs_131 : decode prog_8_method_27_code 131 = .ok (.aload_n 0, 1) := by decide +kernel
theorem d_Y_hangs_132 : decode prog_8_method_27_code 132 = .ok (.getfield 44, 3) := by decide +kernel
theorem d_Y_hangs_135 : decode prog_8_method_27_code 135 = .ok (.sipush 768, 3) := by decide +kernel
theorem d_Y_hangs_138 : decode prog_8_method_27_code 138 = .ok (.iload 7, 2) := by decide +kernel
theorem d_Y_hangs_140 : decode prog_8_method_27_code 140 = .ok (.iload 5, 2) := by decide +kernel
theorem d_Y_hangs_142 : decode prog_8_method_27_code 142 = .ok (.iand, 1) := by decide +kernel
theorem d_Y_hangs_143 : decode prog_8_method_27_code 143 = .ok (.iadd, 1) := by decide +kernel
theorem d_Y_hangs_144 : decode prog_8_method_27_code 144 = .ok (.dup2, 1) := by decide +kernel
theorem d_Y_hangs_145 : decode prog_8_method_27_code 145 = .ok (.laload, 1) := by decide +kernel
theorem d_Y_hangs_146 : decode prog_8_method_27_code 146 = .ok (.aload_n 0, 1) := by decide +kernel
theorem d_Y_hangs_147 : decode prog_8_method_27_code 147 = .ok (.getfield 40, 3) := by decide +kernel
theorem d_Y_hangs_150 : decode prog_8_method_27_code 150 = .ok (.iload 7, 2) := by decide +kernel
theorem d_Y_hangs_152 : decode prog_8_method_27_code 152 = .ok (.laload, 1) := by decide +kernel
theorem d_Y_hangs_153 : decode prog_8_method_27_code 153 = .ok (.ladd, 1) := by decide +kernel
theorem d_Y_hangs_154 : decode prog_8_method_27_code 154 = .ok (.lastore, 1) := by decide +kernel
theorem d_Y_hangs_155 : decode prog_8_method_27_code 155 = .ok (.iinc 7 1, 3) := by decide +kernel
theorem d_Y_hangs_158 : decode prog_8_method_27_code 158 = .ok (.goto (-105), 3) := by decide +kernel
theorem d_Y_hangs_161 : decode prog_8_method_27_code 161 = .ok (.iconst 0, 1) := by decide +kernel
theorem d_Y_hangs_162 : decode prog_8_method_27_code 162 = .ok (.istore 7, 2) := by decide +kernel
theorem d_Y_hangs_164 : decode prog_8_method_27_code 164 = .ok (.iload 7, 2) := by decide +kernel
theorem d_Y_hangs_166 : decode prog_8_method_27_code 166 = .ok (.iload 6, 2) := by decide +kernel
theorem d_Y_hangs_168 : decode prog_8_method_27_code 168 = .ok (.if_icmp .gt 76, 3) := by decide +kernel
theorem d_Y_hangs_171 : decode prog_8_method_27_code 171 = .ok (.iload 7, 2) := by decide +kernel
theorem d_Y_hangs_173 : decode prog_8_method_27_code 173 = .ok (.iload 6, 2) := by decide +kernel
theorem d_Y_hangs_175 : decode prog_8_method_27_code 175 = .ok (.iconst (-1), 1) := by decide +kernel
theorem d_Y_hangs_176 : decode prog_8_method_27_code 176 = .ok (.ixor, 1) := by decide +kernel
theorem d_Y_hangs_177 : decode prog_8_method_27_code 177 = .ok (.iand, 1) := by decide +kernel
theorem d_Y_hangs_178 : decode prog_8_method_27_code 178 = .ok (.ifCond .ne 60, 3) := by decide +kernel
theorem d_Y_hangs_181 : decode prog_8_method_27_code 181 = .ok (.aload_n 0, 1) := by decide +kernel
theorem d_Y_hangs_182 : decode prog_8_method_27_code 182 = .ok (.getfield 44, 3) := by decide +kernel
theorem d_Y_hangs_185 : decode prog_8_method_27_code 185 = .ok (.iload 7, 2) := by decide +kernel
theorem d_Y_hangs_187 : decode prog_8_method_27_code 187 = .ok (.laload, 1) := by decide +kernel
theorem d_Y_hangs_188 : decode prog_8_method_27_code 188 = .ok (.aload_n 0, 1) := by decide +kernel
theorem d_Y_hangs_189 : decode prog_8_method_27_code 189 = .ok (.getfield 44, 3) := by decide +kernel
theorem d_Y_hangs_192 : decode prog_8_method_27_code 192 = .ok (.sipush 256, 3) := by decide +kernel
theorem d_Y_hangs_195 : decode prog_8_method_27_code 195 = .ok (.iload 7, 2) := by decide +kernel
theorem d_Y_hangs_197 : decode prog_8_method_27_code 197 = .ok (.iload_n 3, 1) := by decide +kernel
theorem d_Y_hangs_198 : decode prog_8_method_27_code 198 = .ok (.iand, 1) := by decide +kernel
theorem d_Y_hangs_199 : decode prog_8_method_27_code 199 = .ok (.iadd, 1) := by decide +kernel
theorem d_Y_hangs_200 : decode prog_8_method_27_code 200 = .ok (.laload, 1) := by decide +kernel
theorem d_Y_hangs_201 : decode prog_8_method_27_code 201 = .ok (.lmul, 1) := by decide +kernel
theorem d_Y_hangs_202 : decode prog_8_method_27_code 202 = .ok (.aload_n 0, 1) := by decide +kernel
theorem d_Y_hangs_203 : decode prog_8_method_27_code 203 = .ok (.getfield 44, 3) := by decide +kernel
theorem d_Y_hangs_206 : decode prog_8_method_27_code 206 = .ok (.sipush 512, 3) := by decide +kernel
theorem d_Y_hangs_209 : decode prog_8_method_27_code 209 = .ok (.iload 7, 2) := by decide +kernel
theorem d_Y_hangs_211 : decode prog_8_method_27_code 211 = .ok (.iload 4, 2) := by decide +kernel
theorem d_Y_hangs_213 : decode prog_8_method_27_code 213 = .ok (.iand, 1) := by decide +kernel
theorem d_Y_hangs_214 : decode prog_8_method_27_code 214 = .ok (.iadd, 1) := by decide +kernel
theorem d_Y_hangs_215 : decode prog_8_method_27_code 215 = .ok (.laload, 1) := by decide +kernel
theorem d_Y_hangs_216 : decode prog_8_method_27_code 216 = .ok (.aload_n 0, 1) := by decide +kernel
theorem d_Y_hangs_217 : decode prog_8_method_27_code 217 = .ok (.getfield 44, 3) := by decide +kernel
theorem d_Y_hangs_220 : decode prog_8_method_27_code 220 = .ok (.sipush 768, 3) := by decide +kernel
theorem d_Y_hangs_223 : decode prog_8_method_27_code 223 = .ok (.iload 7, 2) := by decide +kernel
theorem d_Y_hangs_225 : decode prog_8_method_27_code 225 = .ok (.iload 5, 2) := by decide +kernel
theorem d_Y_hangs_227 : decode prog_8_method_27_code 227 = .ok (.iand, 1) := by decide +kernel
theorem d_Y_hangs_228 : decode prog_8_method_27_code 228 = .ok (.iadd, 1) := by decide +kernel
theorem d_Y_hangs_229 : decode prog_8_method_27_code 229 = .ok (.laload, 1) := by decide +kernel
theorem d_Y_hangs_230 : decode prog_8_method_27_code 230 = .ok (.lmul, 1) := by decide +kernel
theorem d_Y_hangs_231 : decode prog_8_method_27_code 231 = .ok (.lcmp, 1) := by decide +kernel
theorem d_Y_hangs_232 : decode prog_8_method_27_code 232 = .ok (.ifCond .eq 6, 3) := by decide +kernel
theorem d_Y_hangs_235 : decode prog_8_method_27_code 235 = .ok (.iload 7, 2) := by decide +kernel
theorem d_Y_hangs_237 : decode prog_8_method_27_code 237 = .ok (.ireturn, 1) := by decide +kernel
theorem d_Y_hangs_238 : decode prog_8_method_27_code 238 = .ok (.iinc 7 1, 3) := by decide +kernel
theorem d_Y_hangs_241 : decode prog_8_method_27_code 241 = .ok (.goto (-77), 3) := by decide +kernel
theorem d_Y_hangs_244 : decode prog_8_method_27_code 244 = .ok (.iconst (-1), 1) := by decide +kernel
theorem d_Y_hangs_245 : decode prog_8_method_27_code 245 = .ok (.ireturn, 1) := by decide +kernel
theorem d_Y_differ_0 : decode prog_8_method_29_code 0 = .ok (.aload_n 0, 1) := by decide +kernel
theorem d_Y_differ_1 : decode prog_8_method_29_code 1 = .ok (.iload_n 1, 1) := by decide +kernel
theorem d_Y_differ_2 : decode prog_8_method_29_code 2 = .ok (.iload_n 2, 1) := by decide +kernel
theorem d_Y_differ_3 : decode prog_8_method_29_code 3 = .ok (.iload_n 3, 1) := by decide +kernel
theorem d_Y_differ_4 : decode prog_8_method_29_code 4 = .ok (.invokevirtual 109, 3) := by decide +kernel
theorem d_Y_differ_7 : decode prog_8_method_29_code 7 = .ok (.ifCond .eq 13, 3) := by decide +kernel
theorem d_Y_differ_10 : decode prog_8_method_29_code 10 = .ok (.aload_n 0, 1) := by decide +kernel
theorem d_Y_differ_11 : decode prog_8_method_29_code 11 = .ok (.iload_n 1, 1) := by decide +kernel
theorem d_Y_differ_12 : decode prog_8_method_29_code 12 = .ok (.iload_n 2, 1) := by decide +kernel
theorem d_Y_differ_13 : decode prog_8_method_29_code 13 = .ok (.iload_n 3, 1) := by decide +kernel
theorem d_Y_differ_14 : decode prog_8_method_29_code 14 = .ok (.invokevirtual 128, 3) := by decide +kernel
theorem d_Y_differ_17 : decode prog_8_method_29_code 17 = .ok (.goto 5, 3) := by decide +kernel
theorem d_Y_differ_20 : decode prog_8_method_29_code 20 = .ok (.bipush (-2), 2) := by decide +kernel
theorem d_Y_differ_22 : decode prog_8_method_29_code 22 = .ok (.ireturn, 1) := by decide +kernel
theorem d_Y_blanket_0 : decode prog_8_method_30_code 0 = .ok (.aload_n 0, 1) := by decide +kernel
theorem d_Y_blanket_1 : decode prog_8_method_30_code 1 = .ok (.iload_n 1, 1) := by decide +kernel
theorem d_Y_blanket_2 : decode prog_8_method_30_code 2 = .ok (.invokevirtual 77, 3) := by decide +kernel
theorem d_Y_blanket_5 : decode prog_8_method_30_code 5 = .ok (.ifCond .ne 6, 3) := by decide +kernel
theorem d_Y_blanket_8 : decode prog_8_method_30_code 8 = .ok (.bipush (-2), 2) := by decide +kernel
theorem d_Y_blanket_10 : decode prog_8_method_30_code 10 = .ok (.ireturn, 1) := by decide +kernel
theorem d_Y_blanket_11 : decode prog_8_method_30_code 11 = .ok (.aload_n 0, 1) := by decide +kernel
theorem d_Y_blanket_12 : decode prog_8_method_30_code 12 = .ok (.iconst (-1), 1) := by decide +kernel
theorem d_Y_blanket_13 : decode prog_8_method_30_code 13 = .ok (.invokevirtual 103, 3) := by decide +kernel
theorem d_Y_blanket_16 : decode prog_8_method_30_code 16 = .ok (.iconst 1, 1) := by decide +kernel
theorem d_Y_blanket_17 : decode prog_8_method_30_code 17 = .ok (.aload_n 0, 1) := by decide +kernel
theorem d_Y_blanket_18 : decode prog_8_method_30_code 18 = .ok (.getfield 63, 3) := by decide +kernel
theorem d_Y_blanket_21 : decode prog_8_method_30_code 21 = .ok (.ishl, 1) := by decide +kernel
theorem d_Y_blanket_22 : decode prog_8_method_30_code 22 = .ok (.iconst 1, 1) := by decide +kernel
theorem d_Y_blanket_23 : decode prog_8_method_30_code 23 = .ok (.isub, 1) := by decide +kernel
theorem d_Y_blanket_24 : decode prog_8_method_30_code 24 = .ok (.iconst 1, 1) := by decide +kernel
theorem d_Y_blanket_25 : decode prog_8_method_30_code 25 = .ok (.iload_n 1, 1) := by decide +kernel
theorem d_Y_blanket_26 : decode prog_8_method_30_code 26 = .ok (.ishl, 1) := by decide +kernel
theorem d_Y_blanket_27 : decode prog_8_method_30_code 27 = .ok (.iconst (-1), 1) := by decide +kernel
theorem d_Y_blanket_28 : decode prog_8_method_30_code 28 = .ok (.ixor, 1) := by decide +kernel
theorem d_Y_blanket_29 : decode prog_8_method_30_code 29 = .ok (.iand, 1) := by decide +kernel
theorem d_Y_blanket_30 : decode prog_8_method_30_code 30 = .ok (.istore_n 2, 1) := by decide +kernel
theorem d_Y_blanket_31 : decode prog_8_method_30_code 31 = .ok (.iload_n 2, 1) := by decide +kernel
theorem d_Y_blanket_32 : decode prog_8_method_30_code 32 = .ok (.istore_n 3, 1) := by decide +kernel
theorem d_Y_blanket_33 : decode prog_8_method_30_code 33 = .ok (.iload_n 2, 1) := by decide +kernel
theorem d_Y_blanket_34 : decode prog_8_method_30_code 34 = .ok (.istore 4, 2) := by decide +kernel
theorem d_Y_blanket_36 : decode prog_8_method_30_code 36 = .ok (.iload 4, 2) := by decide +kernel
theorem d_Y_blanket_38 : decode prog_8_method_30_code 38 = .ok (.ifCond .lt 108, 3) := by decide +kernel
theorem d_Y_blanket_41 : decode prog_8_method_30_code 41 = .ok (.iload 4, 2) := by decide +kernel
theorem d_Y_blanket_43 : decode prog_8_method_30_code 43 = .ok (.iload_n 2, 1) := by decide +kernel
theorem d_Y_blanket_44 : decode prog_8_method_30_code 44 = .ok (.iconst (-1), 1) := by decide +kernel
theorem d_Y_blanket_45 : decode prog_8_method_30_code 45 = .ok (.ixor, 1) := by decide +kernel
theorem d_Y_blanket_46 : decode prog_8_method_30_code 46 = .ok (.iand, 1) := by decide +kernel
theorem d_Y_blanket_47 : decode prog_8_method_30_code 47 = .ok (.ifCond .ne 93, 3) := by decide +kernel
theorem d_Y_blanket_50 : decode prog_8_method_30_code 50 = .ok (.iload 4, 2) := by decide +kernel
theorem d_Y_blanket_52 : decode prog_8_method_30_code 52 = .ok (.invokestatic 96, 3) := by decide +kernel
theorem d_Y_blanket_55 : decode prog_8_method_30_code 55 = .ok (.iload_n 3, 1) := by decide +kernel
theorem d_Y_blanket_56 : decode prog_8_method_30_code 56 = .ok (.invokestatic 96, 3) := by decide +kernel
theorem d_Y_blanket_59 : decode prog_8_method_30_code 59 = .ok (.if_icmp .gt 81, 3) := by decide +kernel
theorem d_Y_blanket_62 : decode prog_8_method_30_code 62 = .ok (.iconst 1, 1) := by decide +kernel
theorem d_Y_blanket_63 : decode prog_8_method_30_code 63 = .ok (.istore 5, 2) := by decide +kernel
theorem d_Y_blanket_65 : decode prog_8_method_30_code 65 = .ok (.iconst 0, 1) := by decide +kernel
theorem d_Y_blanket_66 : decode prog_8_method_30_code 66 = .ok (.istore 6, 2) := by decide +kernel
theorem d_Y_blanket_68 : decode prog_8_method_30_code 68 = .ok (.iload 6, 2) := by decide +kernel
theorem d_Y_blanket_70 : decode prog_8_method_30_code 70 = .ok (.aload_n 0, 1) := by decide +kernel
theorem d_Y_blanket_71 : decode prog_8_method_30_code 71 = .ok (.getfield 63, 3) := by decide +kernel
theorem d_Y_blanket_74 : decode prog_8_method_30_code 74 = .ok (.if_icmp .ge 54, 3) := by decide +kernel
theorem d_Y_blanket_77 : decode prog_8_method_30_code 77 = .ok (.iload 5, 2) := by decide +kernel
theorem d_Y_blanket_79 : decode prog_8_method_30_code 79 = .ok (.ifCond .eq 49, 3) := by decide +kernel
theorem d_Y_blanket_82 : decode prog_8_method_30_code 82 = .ok (.iload 6, 2) := by decide +kernel
theorem d_Y_blanket_84 : decode prog_8_method_30_code 84 = .ok (.iload_n 1, 1) := by decide +kernel
theorem d_Y_blanket_85 : decode prog_8_method_30_code 85 = .ok (.if_icmp .eq 30, 3) := by decide +kernel
theorem d_Y_blanket_88 : decode prog_8_method_30_code 88 = .ok (.iload 4, 2) := by decide +kernel
theorem d_Y_blanket_90 : decode prog_8_method_30_code 90 = .ok (.iload 6, 2) := by decide +kernel
theorem d_Y_blanket_92 : decode prog_8_method_30_code 92 = .ok (.ishr, 1) := by decide +kernel
theorem d_Y_blanket_93 : decode prog_8_method_30_code 93 = .ok (.iconst 1, 1) := by decide +kernel
theorem d_Y_blanket_94 : decode prog_8_method_30_code 94 = .ok (.iand, 1) := by decide +kernel
theorem d_Y_blanket_95 : decode prog_8_method_30_code 95 = .ok (.iconst 1, 1) := by decide +kernel
theorem d_Y_blanket_96 : decode prog_8_method_30_code 96 = .ok (.if_icmp .eq 19, 3) := by decide +kernel
theorem d_Y_blanket_99 : decode prog_8_method_30_code 99 = .ok (.aload_n 0, 1) := by decide +kernel
theorem d_Y_blanket_100 : decode prog_8_method_30_code 100 = .ok (.aload_n 0, 1) := by decide +kernel
theorem d_Y_blanket_101 : decode prog_8_method_30_code 101 = .ok (.getfield 22, 3) := by decide +kernel
theorem d_Y_blanket_104 : decode prog_8_method_30_code 104 = .ok (.iload_n 1, 1) := by decide +kernel
theorem d_Y_blanket_105 : decode prog_8_method_30_code 105 = .ok (.iload 6, 2) := by decide +kernel
theorem d_Y_blanket_107 : decode prog_8_method_30_code 107 = .ok (.iload 4, 2) := by decide +kernel
theorem d_Y_blanket_109 : decode prog_8_method_30_code 109 = .ok (.invokevirtual 113, 3) := by decide +kernel
theorem d_Y_blanket_112 : decode prog_8_method_30_code 112 = .ok (.ifCond .eq 7, 3) := by decide +kernel
theorem d_Y_blanket_115 : decode prog_8_method_30_code 115 = .ok (.iconst 1, 1) := by decide +kernel
theorem d_Y_blanket_116 : decode prog_8_method_30_code 116 = .ok (.goto 4, 3) := by decide +kernel
theorem d_Y_blanket_119 : decode prog_8_method_30_code 119 = .ok (.iconst 0, 1) := by decide +kernel
theorem d_Y_blanket_120 : decode prog_8_method_30_code 120 = .ok (.istore 5, 2) := by decide +kernel
theorem d_Y_blanket_122 : decode prog_8_method_30_code 122 = .ok (.iinc 6 1, 3) := by decide +kernel
theorem d_Y_blanket_125 : decode prog_8_method_30_code 125 = .ok (.goto (-57), 3) := by decide +kernel
theorem d_Y_blanket_128 : decode prog_8_method_30_code 128 = .ok (.iload 5, 2) := by decide +kernel
theorem d_Y_blanket_130 : decode prog_8_method_30_code 130 = .ok (.ifCond .eq 8, 3) := by decide +kernel
theorem d_Y_blanket_133 : decode prog_8_method_30_code 133 = .ok (.iload 4, 2) := by decide +kernel
theorem d_Y_blanket_135 : decode prog_8_method_30_code 135 = .ok (.goto 4, 3) := by decide +kernel
theorem d_Y_blanket_138 : decode prog_8_method_30_code 138 = .ok (.iload_n 3, 1) := by decide +kernel
theorem d_Y_blanket_139 : decode prog_8_method_30_code 139 = .ok (.istore_n 3, 1) := by decide +kernel
theorem d_Y_blanket_140 : decode prog_8_method_30_code 140 = .ok (.iinc 4 (-1), 3) := by decide +kernel
theorem d_Y_blanket_143 : decode prog_8_method_30_code 143 = .ok (.goto (-107), 3) := by decide +kernel
theorem d_Y_blanket_146 : decode prog_8_method_30_code 146 = .ok (.iload_n 3, 1) := by decide +kernel
theorem d_Y_blanket_147 : decode prog_8_method_30_code 147 = .ok (.ireturn, 1) := by decide +kernel
theorem d_Y_least_0 : decode prog_8_method_31_code 0 = .ok (.aload_n 0, 1) := by decide +kernel
theorem d_Y_least_1 : decode prog_8_method_31_code 1 = .ok (.iload_n 1, 1) := by decide +kernel
theorem d_Y_least_2 : decode prog_8_method_31_code 2 = .ok (.invokevirtual 77, 3) := by decide +kernel
theorem d_Y_least_5 : decode prog_8_method_31_code 5 = .ok (.ifCond .eq 16, 3) := by decide +kernel
theorem d_Y_least_8 : decode prog_8_method_31_code 8 = .ok (.aload_n 0, 1) := by decide +kernel
theorem d_Y_least_9 : decode prog_8_method_31_code 9 = .ok (.iload_n 2, 1) := by decide +kernel
theorem d_Y_least_10 : decode prog_8_method_31_code 10 = .ok (.invokevirtual 77, 3) := by decide +kernel
theorem d_Y_least_13 : decode prog_8_method_31_code 13 = .ok (.ifCond .eq 8, 3) := by decide +kernel
theorem d_Y_least_16 : decode prog_8_method_31_code 16 = .ok (.iload_n 1, 1) := by decide +kernel
theorem d_Y_least_17 : decode prog_8_method_31_code 17 = .ok (.iload_n 2, 1) := by decide +kernel
theorem d_Y_least_18 : decode prog_8_method_31_code 18 = .ok (.if_icmp .ne 6, 3) := by decide +kernel
theorem d_Y_least_21 : decode prog_8_method_31_code 21 = .ok (.bipush (-2), 2) := by decide +kernel
theorem d_Y_least_23 : decode prog_8_method_31_code 23 = .ok (.ireturn, 1) := by decide +kernel
theorem d_Y_least_24 : decode prog_8_method_31_code 24 = .ok (.aload_n 0, 1) := by decide +kernel
theorem d_Y_least_25 : decode prog_8_method_31_code 25 = .ok (.iconst (-1), 1) := by decide +kernel
theorem d_Y_least_26 : decode prog_8_method_31_code 26 = .ok (.invokevirtual 103, 3) := by decide +kernel
theorem d_Y_least_29 : decode prog_8_method_31_code 29 = .ok (.iconst 1, 1) := by decide +kernel
theorem d_Y_least_30 : decode prog_8_method_31_code 30 = .ok (.aload_n 0, 1) := by decide +kernel
theorem d_Y_least_31 : decode prog_8_method_31_code 31 = .ok (.getfield 63, 3) := by decide +kernel
theorem d_Y_least_34 : decode prog_8_method_31_code 34 = .ok (.ishl, 1) := by decide +kernel
theorem d_Y_least_35 : decode prog_8_method_31_code 35 = .ok (.iconst 1, 1) := by decide +kernel
theorem d_Y_least_36 : decode prog_8_method_31_code 36 = .ok (.isub, 1) := by decide +kernel
theorem d_Y_least_37 : decode prog_8_method_31_code 37 = .ok (.iconst 1, 1) := by decide +kernel
theorem d_Y_least_38 : decode prog_8_method_31_code 38 = .ok (.iload_n 1, 1) := by decide +kernel
theorem d_Y_least_39 : decode prog_8_method_31_code 39 = .ok (.ishl, 1) := by decide +kernel
theorem d_Y_least_40 : decode prog_8_method_31_code 40 = .ok (.iconst (-1), 1) := by decide +kernel
theorem d_Y_least_41 : decode prog_8_method_31_code 41 = .ok (.ixor, 1) := by decide +kernel
theorem d_Y_least_42 : decode prog_8_method_31_code 42 = .ok (.iand, 1) := by decide +kernel
theorem d_Y_least_43 : decode prog_8_method_31_code 43 = .ok (.iconst 1, 1) := by decide +kernel
theorem d_Y_least_44 : decode prog_8_method_31_code 44 = .ok (.iload_n 2, 1) := by decide +kernel
theorem d_Y_least_45 : decode prog_8_method_31_code 45 = .ok (.ishl, 1) := by decide +kernel
theorem d_Y_least_46 : decode prog_8_method_31_code 46 = .ok (.iconst (-1), 1) := by decide +kernel
theorem d_Y_least_47 : decode prog_8_method_31_code 47 = .ok (.ixor, 1) := by decide +kernel
theorem d_Y_least_48 : decode prog_8_method_31_code 48 = .ok (.iand, 1) := by decide +kernel
theorem d_Y_least_49 : decode prog_8_method_31_code 49 = .ok (.istore_n 3, 1) := by decide +kernel
theorem d_Y_least_50 : decode prog_8_method_31_code 50 = .ok (.iconst (-1), 1) := by decide +kernel
theorem d_Y_least_51 : decode prog_8_method_31_code 51 = .ok (.istore 4, 2) := by decide +kernel
theorem d_Y_least_53 : decode prog_8_method_31_code 53 = .ok (.iload_n 3, 1) := by decide +kernel
theorem d_Y_least_54 : decode prog_8_method_31_code 54 = .ok (.istore 5, 2) := by decide +kernel
theorem d_Y_least_56 : decode prog_8_method_31_code 56 = .ok (.iload 5, 2) := by decide +kernel
theorem d_Y_least_58 : decode prog_8_method_31_code 58 = .ok (.ifCond .lt 56, 3) := by decide +kernel
theorem d_Y_least_61 : decode prog_8_method_31_code 61 = .ok (.iload 5, 2) := by decide +kernel
theorem d_Y_least_63 : decode prog_8_method_31_code 63 = .ok (.iload_n 3, 1) := by decide +kernel
theorem d_Y_least_64 : decode prog_8_method_31_code 64 = .ok (.iconst (-1), 1) := by decide +kernel
theorem d_Y_least_65 : decode prog_8_method_31_code 65 = .ok (.ixor, 1) := by decide +kernel
theorem d_Y_least_66 : decode prog_8_method_31_code 66 = .ok (.iand, 1) := by decide +kernel
theorem d_Y_least_67 : decode prog_8_method_31_code 67 = .ok (.ifCond .ne 41, 3) := by decide +kernel
theorem d_Y_least_70 : decode prog_8_method_31_code 70 = .ok (.iload 4, 2) := by decide +kernel
theorem d_Y_least_72 : decode prog_8_method_31_code 72 = .ok (.iconst (-1), 1) := by decide +kernel
theorem d_Y_least_73 : decode prog_8_method_31_code 73 = .ok (.if_icmp .eq 16, 3) := by decide +kernel
theorem d_Y_least_76 : decode prog_8_method_31_code 76 = .ok (.iload 5, 2) := by decide +kernel
theorem d_Y_least_78 : decode prog_8_method_31_code 78 = .ok (.invokestatic 96, 3) := by decide +kernel
theorem d_Y_least_81 : decode prog_8_method_31_code 81 = .ok (.iload 4, 2) := by decide +kernel
theorem d_Y_least_83 : decode prog_8_method_31_code 83 = .ok (.invokestatic 96, 3) := by decide +kernel
theorem d_Y_least_86 : decode prog_8_method_31_code 86 = .ok (.if_icmp .gt 22, 3) := by decide +kernel
theorem d_Y_least_89 : decode prog_8_method_31_code 89 = .ok (.aload_n 0, 1) := by decide +kernel
theorem d_Y_least_90 : decode prog_8_method_31_code 90 = .ok (.aload_n 0, 1) := by decide +kernel
theorem d_Y_least_91 : decode prog_8_method_31_code 91 = .ok (.getfield 22, 3) := by decide +kernel
theorem d_Y_least_94 : decode prog_8_method_31_code 94 = .ok (.iload_n 1, 1) := by decide +kernel
theorem d_Y_least_95 : decode prog_8_method_31_code 95 = .ok (.iload_n 2, 1) := by decide +kernel
theorem d_Y_least_96 : decode prog_8_method_31_code 96 = .ok (.iload 5, 2) := by decide +kernel
theorem d_Y_least_98 : decode prog_8_method_31_code 98 = .ok (.invokevirtual 113, 3) := by decide +kernel
theorem d_Y_least_101 : decode prog_8_method_31_code 101 = .ok (.ifCond .eq 7, 3) := by decide +kernel
theorem d_Y_least_104 : decode prog_8_method_31_code 104 = .ok (.iload 5, 2) := by decide +kernel
theorem d_Y_least_106 : decode prog_8_method_31_code 106 = .ok (.istore 4, 2) := by decide +kernel
theorem d_Y_least_108 : decode prog_8_method_31_code 108 = .ok (.iinc 5 (-1), 3) := by decide +kernel
theorem d_Y_least_111 : decode prog_8_method_31_code 111 = .ok (.goto (-55), 3) := by decide +kernel
theorem d_Y_least_114 : decode prog_8_method_31_code 114 = .ok (.iload 4, 2) := by decide +kernel
theorem d_Y_least_116 : decode prog_8_method_31_code 116 = .ok (.ireturn, 1) := by decide +kernel
theorem d_Y_enough_0 : decode prog_8_method_32_code 0 = .ok (.aload_n 0, 1) := by decide +kernel
theorem d_Y_enough_1 : decode prog_8_method_32_code 1 = .ok (.iload_n 1, 1) := by decide +kernel
theorem d_Y_enough_2 : decode prog_8_method_32_code 2 = .ok (.iload_n 2, 1) := by decide +kernel
theorem d_Y_enough_3 : decode prog_8_method_32_code 3 = .ok (.iload_n 3, 1) := by decide +kernel
theorem d_Y_enough_4 : decode prog_8_method_32_code 4 = .ok (.invokevirtual 109, 3) := by decide +kernel
theorem d_Y_enough_7 : decode prog_8_method_32_code 7 = .ok (.ifCond .ne 6, 3) := by decide +kernel
theorem d_Y_enough_10 : decode prog_8_method_32_code 10 = .ok (.bipush (-2), 2) := by decide +kernel
theorem d_Y_enough_12 : decode prog_8_method_32_code 12 = .ok (.ireturn, 1) := by decide +kernel
theorem d_Y_enough_13 : decode prog_8_method_32_code 13 = .ok (.aload_n 0, 1) := by decide +kernel
theorem d_Y_enough_14 : decode prog_8_method_32_code 14 = .ok (.iconst (-1), 1) := by decide +kernel
theorem d_Y_enough_15 : decode prog_8_method_32_code 15 = .ok (.invokevirtual 103, 3) := by decide +kernel
theorem d_Y_enough_18 : decode prog_8_method_32_code 18 = .ok (.aload_n 0, 1) := by decide +kernel
theorem d_Y_enough_19 : decode prog_8_method_32_code 19 = .ok (.iload_n 1, 1) := by decide +kernel
theorem d_Y_enough_20 : decode prog_8_method_32_code 20 = .ok (.invokevirtual 106, 3) := by decide +kernel
theorem d_Y_enough_23 : decode prog_8_method_32_code 23 = .ok (.iload_n 3, 1) := by decide +kernel
theorem d_Y_enough_24 : decode prog_8_method_32_code 24 = .ok (.iand, 1) := by decide +kernel
theorem d_Y_enough_25 : decode prog_8_method_32_code 25 = .ok (.ifCond .eq 5, 3) := by decide +kernel
theorem d_Y_enough_28 : decode prog_8_method_32_code 28 = .ok (.iconst 0, 1) := by decide +kernel
theorem d_Y_enough_29 : decode prog_8_method_32_code 29 = .ok (.ireturn, 1) := by decide +kernel
theorem d_Y_enough_30 : decode prog_8_method_32_code 30 = .ok (.aload_n 0, 1) := by decide +kernel
theorem d_Y_enough_31 : decode prog_8_method_32_code 31 = .ok (.iload_n 1, 1) := by decide +kernel
theorem d_Y_enough_32 : decode prog_8_method_32_code 32 = .ok (.invokevirtual 103, 3) := by decide +kernel
theorem d_Y_enough_35 : decode prog_8_method_32_code 35 = .ok (.aload_n 0, 1) := by decide +kernel
theorem d_Y_enough_36 : decode prog_8_method_32_code 36 = .ok (.aload_n 0, 1) := by decide +kernel
theorem d_Y_enough_37 : decode prog_8_method_32_code 37 = .ok (.getfield 22, 3) := by decide +kernel
theorem d_Y_enough_40 : decode prog_8_method_32_code 40 = .ok (.iload_n 1, 1) := by decide +kernel
theorem d_Y_enough_41 : decode prog_8_method_32_code 41 = .ok (.iload_n 2, 1) := by decide +kernel
theorem d_Y_enough_42 : decode prog_8_method_32_code 42 = .ok (.iload_n 3, 1) := by decide +kernel
theorem d_Y_enough_43 : decode prog_8_method_32_code 43 = .ok (.invokevirtual 113, 3) := by decide +kernel
theorem d_Y_enough_46 : decode prog_8_method_32_code 46 = .ok (.ifCond .eq 7, 3) := by decide +kernel
theorem d_Y_enough_49 : decode prog_8_method_32_code 49 = .ok (.iconst 1, 1) := by decide +kernel
theorem d_Y_enough_50 : decode prog_8_method_32_code 50 = .ok (.goto 4, 3) := by decide +kernel
theorem d_Y_enough_53 : decode prog_8_method_32_code 53 = .ok (.iconst 0, 1) := by decide +kernel
theorem d_Y_enough_54 : decode prog_8_method_32_code 54 = .ok (.ireturn, 1) := by decide +kernel
theorem d_Y_keep_0 : decode prog_8_method_33_code 0 = .ok (.aload_n 0, 1) := by decide +kernel
theorem d_Y_keep_1 : decode prog_8_method_33_code 1 = .ok (.iconst 1, 1) := by decide +kernel
theorem d_Y_keep_2 : decode prog_8_method_33_code 2 = .ok (.putfield 70, 3) := by decide +kernel
theorem d_Y_keep_5 : decode prog_8_method_33_code 5 = .ok (.aload_n 0, 1) := by decide +kernel
theorem d_Y_keep_6 : decode prog_8_method_33_code 6 = .ok (.aload_n 0, 1) := by decide +kernel
theorem d_Y_keep_7 : decode prog_8_method_33_code 7 = .ok (.getfield 63, 3) := by decide +kernel
theorem d_Y_keep_10 : decode prog_8_method_33_code 10 = .ok (.putfield 132, 3) := by decide +kernel
theorem d_Y_keep_13 : decode prog_8_method_33_code 13 = .ok (.iconst 0, 1) := by decide +kernel
theorem d_Y_keep_14 : decode prog_8_method_33_code 14 = .ok (.istore_n 1, 1) := by decide +kernel
theorem d_Y_keep_15 : decode prog_8_method_33_code 15 = .ok (.iload_n 1, 1) := by decide +kernel
theorem d_Y_keep_16 : decode prog_8_method_33_code 16 = .ok (.bipush 8, 2) := by decide +kernel
theorem d_Y_keep_18 : decode prog_8_method_33_code 18 = .ok (.if_icmp .ge 21, 3) := by decide +kernel
theorem d_Y_keep_21 : decode prog_8_method_33_code 21 = .ok (.aload_n 0, 1) := by decide +kernel
theorem d_Y_keep_22 : decode prog_8_method_33_code 22 = .ok (.getfield 19, 3) := by decide +kernel
theorem d_Y_keep_25 : decode prog_8_method_33_code 25 = .ok (.iload_n 1, 1) := by decide +kernel
theorem d_Y_keep_26 : decode prog_8_method_33_code 26 = .ok (.aload_n 0, 1) := by decide +kernel
theorem d_Y_keep_27 : decode prog_8_method_33_code 27 = .ok (.getfield 7, 3) := by decide +kernel
theorem d_Y_keep_30 : decode prog_8_method_33_code 30 = .ok (.iload_n 1, 1) := by decide +kernel
theorem d_Y_keep_31 : decode prog_8_method_33_code 31 = .ok (.iaload, 1) := by decide +kernel
theorem d_Y_keep_32 : decode prog_8_method_33_code 32 = .ok (.iastore, 1) := by decide +kernel
theorem d_Y_keep_33 : decode prog_8_method_33_code 33 = .ok (.iinc 1 1, 3) := by decide +kernel
theorem d_Y_keep_36 : decode prog_8_method_33_code 36 = .ok (.goto (-21), 3) := by decide +kernel
theorem d_Y_keep_39 : decode prog_8_method_33_code 39 = .ok (.aload_n 0, 1) := by decide +kernel
theorem d_Y_keep_40 : decode prog_8_method_33_code 40 = .ok (.getfield 67, 3) := by decide +kernel
theorem d_Y_keep_43 : decode prog_8_method_33_code 43 = .ok (.ireturn, 1) := by decide +kernel
theorem d_Y_alike_0 : decode prog_8_method_36_code 0 = .ok (.aload_n 0, 1) := by decide +kernel
theorem d_Y_alike_1 : decode prog_8_method_36_code 1 = .ok (.getfield 70, 3) := by decide +kernel
theorem d_Y_alike_4 : decode prog_8_method_36_code 4 = .ok (.ifCond .eq 14, 3) := by decide +kernel
theorem d_Y_alike_7 : decode prog_8_method_36_code 7 = .ok (.aload_n 0, 1) := by decide +kernel
theorem d_Y_alike_8 : decode prog_8_method_36_code 8 = .ok (.getfield 132, 3) := by decide +kernel
theorem d_Y_alike_11 : decode prog_8_method_36_code 11 = .ok (.aload_n 0, 1) := by decide +kernel
theorem d_Y_alike_12 : decode prog_8_method_36_code 12 = .ok (.getfield 63, 3) := by decide +kernel
theorem d_Y_alike_15 : decode prog_8_method_36_code 15 = .ok (.if_icmp .eq 5, 3) := by decide +kernel
theorem d_Y_alike_18 : decode prog_8_method_36_code 18 = .ok (.iconst (-1), 1) := by decide +kernel
theorem d_Y_alike_19 : decode prog_8_method_36_code 19 = .ok (.ireturn, 1) := by decide +kernel
theorem d_Y_alike_20 : decode prog_8_method_36_code 20 = .ok (.aload_n 0, 1) := by decide +kernel
theorem d_Y_alike_21 : decode prog_8_method_36_code 21 = .ok (.invokevirtual 135, 3) := by decide +kernel
theorem d_Y_alike_24 : decode prog_8_method_36_code 24 = .ok (.aload_n 0, 1) := by decide +kernel
theorem d_Y_alike_25 : decode prog_8_method_36_code 25 = .ok (.aload_n 0, 1) := by decide +kernel
theorem d_Y_alike_26 : decode prog_8_method_36_code 26 = .ok (.getfield 19, 3) := by decide +kernel
theorem d_Y_alike_29 : decode prog_8_method_36_code 29 = .ok (.invokevirtual 138, 3) := by decide +kernel
theorem d_Y_alike_32 : decode prog_8_method_36_code 32 = .ok (.ifCond .eq 7, 3) := by decide +kernel
theorem d_Y_alike_35 : decode prog_8_method_36_code 35 = .ok (.iconst 1, 1) := by decide +kernel
theorem d_Y_alike_36 : decode prog_8_method_36_code 36 = .ok (.goto 4, 3) := by decide +kernel
theorem d_Y_alike_39 : decode prog_8_method_36_code 39 = .ok (.iconst 0, 1) := by decide +kernel
theorem d_Y_alike_40 : decode prog_8_method_36_code 40 = .ok (.ireturn, 1) := by decide +kernel
theorem d_Y_learn_0 : decode prog_8_method_34_code 0 = .ok (.iconst 0, 1) := by decide +kernel
theorem d_Y_learn_1 : decode prog_8_method_34_code 1 = .ok (.istore_n 1, 1) := by decide +kernel
theorem d_Y_learn_2 : decode prog_8_method_34_code 2 = .ok (.iload_n 1, 1) := by decide +kernel
theorem d_Y_learn_3 : decode prog_8_method_34_code 3 = .ok (.iconst 1, 1) := by decide +kernel
theorem d_Y_learn_4 : decode prog_8_method_34_code 4 = .ok (.aload_n 0, 1) := by decide +kernel
theorem d_Y_learn_5 : decode prog_8_method_34_code 5 = .ok (.getfield 63, 3) := by decide +kernel
theorem d_Y_learn_8 : decode prog_8_method_34_code 8 = .ok (.ishl, 1) := by decide +kernel
theorem d_Y_learn_9 : decode prog_8_method_34_code 9 = .ok (.if_icmp .ge 108, 3) := by decide +kernel
theorem d_Y_learn_12 : decode prog_8_method_34_code 12 = .ok (.iconst 0, 1) := by decide +kernel
theorem d_Y_learn_13 : decode prog_8_method_34_code 13 = .ok (.istore_n 2, 1) := by decide +kernel
theorem d_Y_learn_14 : decode prog_8_method_34_code 14 = .ok (.iload_n 2, 1) := by decide +kernel
theorem d_Y_learn_15 : decode prog_8_method_34_code 15 = .ok (.aload_n 0, 1) := by decide +kernel
theorem d_Y_learn_16 : decode prog_8_method_34_code 16 = .ok (.getfield 63, 3) := by decide +kernel
theorem d_Y_learn_19 : decode prog_8_method_34_code 19 = .ok (.if_icmp .ge 92, 3) := by decide +kernel
theorem d_Y_learn_22 : decode prog_8_method_34_code 22 = .ok (.iload_n 2, 1) := by decide +kernel
theorem d_Y_learn_23 : decode prog_8_method_34_code 23 = .ok (.iconst 1, 1) := by decide +kernel
theorem d_Y_learn_24 : decode prog_8_method_34_code 24 = .ok (.iadd, 1) := by decide +kernel
theorem d_Y_learn_25 : decode prog_8_method_34_code 25 = .ok (.istore_n 3, 1) := by decide +kernel
theorem d_Y_learn_26 : decode prog_8_method_34_code 26 = .ok (.iload_n 3, 1) := by decide +kernel
theorem d_Y_learn_27 : decode prog_8_method_34_code 27 = .ok (.aload_n 0, 1) := by decide +kernel
theorem d_Y_learn_28 : decode prog_8_method_34_code 28 = .ok (.getfield 63, 3) := by decide +kernel
theorem d_Y_learn_31 : decode prog_8_method_34_code 31 = .ok (.if_icmp .ge 74, 3) := by decide +kernel
theorem d_Y_learn_34 : decode prog_8_method_34_code 34 = .ok (.iload_n 1, 1) := by decide +kernel
theorem d_Y_learn_35 : decode prog_8_method_34_code 35 = .ok (.iload_n 2, 1) := by decide +kernel
theorem d_Y_learn_36 : decode prog_8_method_34_code 36 = .ok (.ishr, 1) := by decide +kernel
theorem d_Y_learn_37 : decode prog_8_method_34_code 37 = .ok (.iconst 1, 1) := by decide +kernel
theorem d_Y_learn_38 : decode prog_8_method_34_code 38 = .ok (.iand, 1) := by decide +kernel
theorem d_Y_learn_39 : decode prog_8_method_34_code 39 = .ok (.iconst 1, 1) := by decide +kernel
theorem d_Y_learn_40 : decode prog_8_method_34_code 40 = .ok (.if_icmp .eq 12, 3) := by decide +kernel
theorem d_Y_learn_43 : decode prog_8_method_34_code 43 = .ok (.iload_n 1, 1) := by decide +kernel
theorem d_Y_learn_44 : decode prog_8_method_34_code 44 = .ok (.iload_n 3, 1) := by decide +kernel
theorem d_Y_learn_45 : decode prog_8_method_34_code 45 = .ok (.ishr, 1) := by decide +kernel
theorem d_Y_learn_46 : decode prog_8_method_34_code 46 = .ok (.iconst 1, 1) := by decide +kernel
theorem d_Y_learn_47 : decode prog_8_method_34_code 47 = .ok (.iand, 1) := by decide +kernel
theorem d_Y_learn_48 : decode prog_8_method_34_code 48 = .ok (.iconst 1, 1) := by decide +kernel
theorem d_Y_learn_49 : decode prog_8_method_34_code 49 = .ok (.if_icmp .ne 7, 3) := by decide +kernel
theorem d_Y_learn_52 : decode prog_8_method_34_code 52 = .ok (.iconst 1, 1) := by decide +kernel
theorem d_Y_learn_53 : decode prog_8_method_34_code 53 = .ok (.goto 4, 3) := by decide +kernel
theorem d_Y_learn_56 : decode prog_8_method_34_code 56 = .ok (.iconst 0, 1) := by decide +kernel
theorem d_Y_learn_57 : decode prog_8_method_34_code 57 = .ok (.istore 4, 2) := by decide +kernel
theorem d_Y_learn_59 : decode prog_8_method_34_code 59 = .ok (.aload_n 0, 1) := by decide +kernel
theorem d_Y_learn_60 : decode prog_8_method_34_code 60 = .ok (.getfield 47, 3) := by decide +kernel
theorem d_Y_learn_63 : decode prog_8_method_34_code 63 = .ok (.bipush 64, 2) := by decide +kernel
theorem d_Y_learn_65 : decode prog_8_method_34_code 65 = .ok (.iload_n 1, 1) := by decide +kernel
theorem d_Y_learn_66 : decode prog_8_method_34_code 66 = .ok (.imul, 1) := by decide +kernel
theorem d_Y_learn_67 : decode prog_8_method_34_code 67 = .ok (.bipush 8, 2) := by decide +kernel
theorem d_Y_learn_69 : decode prog_8_method_34_code 69 = .ok (.iload_n 2, 1) := by decide +kernel
theorem d_Y_learn_70 : decode prog_8_method_34_code 70 = .ok (.imul, 1) := by decide +kernel
theorem d_Y_learn_71 : decode prog_8_method_34_code 71 = .ok (.iadd, 1) := by decide +kernel
theorem d_Y_learn_72 : decode prog_8_method_34_code 72 = .ok (.iload_n 3, 1) := by decide +kernel
theorem d_Y_learn_73 : decode prog_8_method_34_code 73 = .ok (.iadd, 1) := by decide +kernel
theorem d_Y_learn_74 : decode prog_8_method_34_code 74 = .ok (.iload 4, 2) := by decide +kernel
theorem d_Y_learn_76 : decode prog_8_method_34_code 76 = .ok (.ifCond .ne 21, 3) := by decide +kernel
theorem d_Y_learn_79 : decode prog_8_method_34_code 79 = .ok (.aload_n 0, 1) := by decide +kernel
theorem d_Y_learn_80 : decode prog_8_method_34_code 80 = .ok (.aload_n 0, 1) := by decide +kernel
theorem d_Y_learn_81 : decode prog_8_method_34_code 81 = .ok (.getfield 7, 3) := by decide +kernel
theorem d_Y_learn_84 : decode prog_8_method_34_code 84 = .ok (.iload_n 2, 1) := by decide +kernel
theorem d_Y_learn_85 : decode prog_8_method_34_code 85 = .ok (.iload_n 3, 1) := by decide +kernel
theorem d_Y_learn_86 : decode prog_8_method_34_code 86 = .ok (.iload_n 1, 1) := by decide +kernel
theorem d_Y_learn_87 : decode prog_8_method_34_code 87 = .ok (.invokevirtual 113, 3) := by decide +kernel
theorem d_Y_learn_90 : decode prog_8_method_34_code 90 = .ok (.ifCond .eq 7, 3) := by decide +kernel
theorem d_Y_learn_93 : decode prog_8_method_34_code 93 = .ok (.iconst 1, 1) := by decide +kernel
theorem d_Y_learn_94 : decode prog_8_method_34_code 94 = .ok (.goto 4, 3) := by decide +kernel
theorem d_Y_learn_97 : decode prog_8_method_34_code 97 = .ok (.iconst 0, 1) := by decide +kernel
theorem d_Y_learn_98 : decode prog_8_method_34_code 98 = .ok (.bastore, 1) := by decide +kernel
theorem d_Y_learn_99 : decode prog_8_method_34_code 99 = .ok (.iinc 3 1, 3) := by decide +kernel
theorem d_Y_learn_102 : decode prog_8_method_34_code 102 = .ok (.goto (-76), 3) := by decide +kernel
theorem d_Y_learn_105 : decode prog_8_method_34_code 105 = .ok (.iinc 2 1, 3) := by decide +kernel
theorem d_Y_learn_108 : decode prog_8_method_34_code 108 = .ok (.goto (-94), 3) := by decide +kernel
theorem d_Y_learn_111 : decode prog_8_method_34_code 111 = .ok (.iinc 1 1, 3) := by decide +kernel
theorem d_Y_learn_114 : decode prog_8_method_34_code 114 = .ok (.goto (-112), 3) := by decide +kernel
theorem d_Y_learn_117 : decode prog_8_method_34_code 117 = .ok (.return_, 1) := by decide +kernel
theorem d_Y_tellsAlike_0 : decode prog_8_method_35_code 0 = .ok (.iconst 0, 1) := by decide +kernel
theorem d_Y_tellsAlike_1 : decode prog_8_method_35_code 1 = .ok (.istore_n 2, 1) := by decide +kernel
theorem d_Y_tellsAlike_2 : decode prog_8_method_35_code 2 = .ok (.iload_n 2, 1) := by decide +kernel
theorem d_Y_tellsAlike_3 : decode prog_8_method_35_code 3 = .ok (.iconst 1, 1) := by decide +kernel
theorem d_Y_tellsAlike_4 : decode prog_8_method_35_code 4 = .ok (.aload_n 0, 1) := by decide +kernel
theorem d_Y_tellsAlike_5 : decode prog_8_method_35_code 5 = .ok (.getfield 63, 3) := by decide +kernel
theorem d_Y_tellsAlike_8 : decode prog_8_method_35_code 8 = .ok (.ishl, 1) := by decide +kernel
theorem d_Y_tellsAlike_9 : decode prog_8_method_35_code 9 = .ok (.if_icmp .ge 107, 3) := by decide +kernel
theorem d_Y_tellsAlike_12 : decode prog_8_method_35_code 12 = .ok (.iconst 0, 1) := by decide +kernel
theorem d_Y_tellsAlike_13 : decode prog_8_method_35_code 13 = .ok (.istore_n 3, 1) := by decide +kernel
theorem d_Y_tellsAlike_14 : decode prog_8_method_35_code 14 = .ok (.iload_n 3, 1) := by decide +kernel
theorem d_Y_tellsAlike_15 : decode prog_8_method_35_code 15 = .ok (.aload_n 0, 1) := by decide +kernel
theorem d_Y_tellsAlike_16 : decode prog_8_method_35_code 16 = .ok (.getfield 63, 3) := by decide +kernel
theorem d_Y_tellsAlike_19 : decode prog_8_method_35_code 19 = .ok (.if_icmp .ge 91, 3) := by decide +kernel
theorem d_Y_tellsAlike_22 : decode prog_8_method_35_code 22 = .ok (.iload_n 3, 1) := by decide +kernel
theorem d_Y_tellsAlike_23 : decode prog_8_method_35_code 23 = .ok (.iconst 1, 1) := by decide +kernel
theorem d_Y_tellsAlike_24 : decode prog_8_method_35_code 24 = .ok (.iadd, 1) := by decide +kernel
theorem d_Y_tellsAlike_25 : decode prog_8_method_35_code 25 = .ok (.istore 4, 2) := by decide +kernel
theorem d_Y_tellsAlike_27 : decode prog_8_method_35_code 27 = .ok (.iload 4, 2) := by decide +kernel
theorem d_Y_tellsAlike_29 : decode prog_8_method_35_code 29 = .ok (.aload_n 0, 1) := by decide +kernel
theorem d_Y_tellsAlike_30 : decode prog_8_method_35_code 30 = .ok (.getfield 63, 3) := by decide +kernel
theorem d_Y_tellsAlike_33 : decode prog_8_method_35_code 33 = .ok (.if_icmp .ge 71, 3) := by decide +kernel
theorem d_Y_tellsAlike_36 : decode prog_8_method_35_code 36 = .ok (.iload_n 2, 1) := by decide +kernel
theorem d_Y_tellsAlike_37 : decode prog_8_method_35_code 37 = .ok (.iload_n 3, 1) := by decide +kernel
theorem d_Y_tellsAlike_38 : decode prog_8_method_35_code 38 = .ok (.ishr, 1) := by decide +kernel
theorem d_Y_tellsAlike_39 : decode prog_8_method_35_code 39 = .ok (.iconst 1, 1) := by decide +kernel
theorem d_Y_tellsAlike_40 : decode prog_8_method_35_code 40 = .ok (.iand, 1) := by decide +kernel
theorem d_Y_tellsAlike_41 : decode prog_8_method_35_code 41 = .ok (.iconst 1, 1) := by decide +kernel
theorem d_Y_tellsAlike_42 : decode prog_8_method_35_code 42 = .ok (.if_icmp .eq 13, 3) := by decide +kernel
theorem d_Y_tellsAlike_45 : decode prog_8_method_35_code 45 = .ok (.iload_n 2, 1) := by decide +kernel
theorem d_Y_tellsAlike_46 : decode prog_8_method_35_code 46 = .ok (.iload 4, 2) := by decide +kernel
theorem d_Y_tellsAlike_48 : decode prog_8_method_35_code 48 = .ok (.ishr, 1) := by decide +kernel
theorem d_Y_tellsAlike_49 : decode prog_8_method_35_code 49 = .ok (.iconst 1, 1) := by decide +kernel
theorem d_Y_tellsAlike_50 : decode prog_8_method_35_code 50 = .ok (.iand, 1) := by decide +kernel
theorem d_Y_tellsAlike_51 : decode prog_8_method_35_code 51 = .ok (.iconst 1, 1) := by decide +kernel
theorem d_Y_tellsAlike_52 : decode prog_8_method_35_code 52 = .ok (.if_icmp .ne 7, 3) := by decide +kernel
theorem d_Y_tellsAlike_55 : decode prog_8_method_35_code 55 = .ok (.iconst 1, 1) := by decide +kernel
theorem d_Y_tellsAlike_56 : decode prog_8_method_35_code 56 = .ok (.goto 4, 3) := by decide +kernel
theorem d_Y_tellsAlike_59 : decode prog_8_method_35_code 59 = .ok (.iconst 0, 1) := by decide +kernel
theorem d_Y_tellsAlike_60 : decode prog_8_method_35_code 60 = .ok (.istore 5, 2) := by decide +kernel
theorem d_Y_tellsAlike_62 : decode prog_8_method_35_code 62 = .ok (.iload 5, 2) := by decide +kernel
theorem d_Y_tellsAlike_64 : decode prog_8_method_35_code 64 = .ok (.ifCond .ne 34, 3) := by decide +kernel
theorem d_Y_tellsAlike_67 : decode prog_8_method_35_code 67 = .ok (.aload_n 0, 1) := by decide +kernel
theorem d_Y_tellsAlike_68 : decode prog_8_method_35_code 68 = .ok (.aload_n 1, 1) := by decide +kernel
theorem d_Y_tellsAlike_69 : decode prog_8_method_35_code 69 = .ok (.iload_n 3, 1) := by decide +kernel
theorem d_Y_tellsAlike_70 : decode prog_8_method_35_code 70 = .ok (.iload 4, 2) := by decide +kernel
theorem d_Y_tellsAlike_72 : decode prog_8_method_35_code 72 = .ok (.iload_n 2, 1) := by decide +kernel
theorem d_Y_tellsAlike_73 : decode prog_8_method_35_code 73 = .ok (.invokevirtual 113, 3) := by decide +kernel
theorem d_Y_tellsAlike_76 : decode prog_8_method_35_code 76 = .ok (.aload_n 0, 1) := by decide +kernel
theorem d_Y_tellsAlike_77 : decode prog_8_method_35_code 77 = .ok (.getfield 47, 3) := by decide +kernel
theorem d_Y_tellsAlike_80 : decode prog_8_method_35_code 80 = .ok (.bipush 64, 2) := by decide +kernel
theorem d_Y_tellsAlike_82 : decode prog_8_method_35_code 82 = .ok (.iload_n 2, 1) := by decide +kernel
theorem d_Y_tellsAlike_83 : decode prog_8_method_35_code 83 = .ok (.imul, 1) := by decide +kernel
theorem d_Y_tellsAlike_84 : decode prog_8_method_35_code 84 = .ok (.bipush 8, 2) := by decide +kernel
theorem d_Y_tellsAlike_86 : decode prog_8_method_35_code 86 = .ok (.iload_n 3, 1) := by decide +kernel
theorem d_Y_tellsAlike_87 : decode prog_8_method_35_code 87 = .ok (.imul, 1) := by decide +kernel
theorem d_Y_tellsAlike_88 : decode prog_8_method_35_code 88 = .ok (.iadd, 1) := by decide +kernel
theorem d_Y_tellsAlike_89 : decode prog_8_method_35_code 89 = .ok (.iload 4, 2) := by decide +kernel
theorem d_Y_tellsAlike_91 : decode prog_8_method_35_code 91 = .ok (.iadd, 1) := by decide +kernel
theorem d_Y_tellsAlike_92 : decode prog_8_method_35_code 92 = .ok (.baload, 1) := by decide +kernel
theorem d_Y_tellsAlike_93 : decode prog_8_method_35_code 93 = .ok (.if_icmp .eq 5, 3) := by decide +kernel
theorem d_Y_tellsAlike_96 : decode prog_8_method_35_code 96 = .ok (.iconst 0, 1) := by decide +kernel
theorem d_Y_tellsAlike_97 : decode prog_8_method_35_code 97 = .ok (.ireturn, 1) := by decide +kernel
theorem d_Y_tellsAlike_98 : decode prog_8_method_35_code 98 = .ok (.iinc 4 1, 3) := by decide +kernel
theorem d_Y_tellsAlike_101 : decode prog_8_method_35_code 101 = .ok (.goto (-74), 3) := by decide +kernel
theorem d_Y_tellsAlike_104 : decode prog_8_method_35_code 104 = .ok (.iinc 3 1, 3) := by decide +kernel
theorem d_Y_tellsAlike_107 : decode prog_8_method_35_code 107 = .ok (.goto (-93), 3) := by decide +kernel
theorem d_Y_tellsAlike_110 : decode prog_8_method_35_code 110 = .ok (.iinc 2 1, 3) := by decide +kernel
theorem d_Y_tellsAlike_113 : decode prog_8_method_35_code 113 = .ok (.goto (-111), 3) := by decide +kernel
theorem d_Y_tellsAlike_116 : decode prog_8_method_35_code 116 = .ok (.iconst 1, 1) := by decide +kernel
theorem d_Y_tellsAlike_117 : decode prog_8_method_35_code 117 = .ok (.ireturn, 1) := by decide +kernel
theorem d_Y_settled_0 : decode prog_8_method_40_code 0 = .ok (.aload_n 0, 1) := by decide +kernel
theorem d_Y_settled_1 : decode prog_8_method_40_code 1 = .ok (.iload_n 1, 1) := by decide +kernel
theorem d_Y_settled_2 : decode prog_8_method_40_code 2 = .ok (.invokevirtual 77, 3) := by decide +kernel
end
section
theorem d_Y_settled_5 : decode prog_8_method_40_code 5 = .ok (.ifCond .eq 16, 3) := by decide +kernel
theorem d_Y_settled_8 : decode prog_8_method_40_code 8 = .ok (.aload_n 0, 1) := by decide +kernel
theorem d_Y_settled_9 : decode prog_8_method_40_code 9 = .ok (.iload_n 2, 1) := by decide +kernel
theorem d_Y_settled_10 : decode prog_8_method_40_code 10 = .ok (.invokevirtual 77, 3) := by decide +kernel
theorem d_Y_settled_13 : decode prog_8_method_40_code 13 = .ok (.ifCond .eq 8, 3) := by decide +kernel
theorem d_Y_settled_16 : decode prog_8_method_40_code 16 = .ok (.iload_n 1, 1) := by decide +kernel
theorem d_Y_settled_17 : decode prog_8_method_40_code 17 = .ok (.iload_n 2, 1) := by decide +kernel
theorem d_Y_settled_18 : decode prog_8_method_40_code 18 = .ok (.if_icmp .ne 6, 3) := by decide +kernel
theorem d_Y_settled_21 : decode prog_8_method_40_code 21 = .ok (.bipush (-2), 2) := by decide +kernel
theorem d_Y_settled_23 : decode prog_8_method_40_code 23 = .ok (.ireturn, 1) := by decide +kernel
theorem d_Y_settled_24 : decode prog_8_method_40_code 24 = .ok (.aload_n 0, 1) := by decide +kernel
theorem d_Y_settled_25 : decode prog_8_method_40_code 25 = .ok (.iload_n 1, 1) := by decide +kernel
theorem d_Y_settled_26 : decode prog_8_method_40_code 26 = .ok (.iload_n 2, 1) := by decide +kernel
theorem d_Y_settled_27 : decode prog_8_method_40_code 27 = .ok (.invokevirtual 92, 3) := by decide +kernel
theorem d_Y_settled_30 : decode prog_8_method_40_code 30 = .ok (.ifCond .ne 5, 3) := by decide +kernel
theorem d_Y_settled_33 : decode prog_8_method_40_code 33 = .ok (.iconst (-1), 1) := by decide +kernel
theorem d_Y_settled_34 : decode prog_8_method_40_code 34 = .ok (.ireturn, 1) := by decide +kernel
theorem d_Y_settled_35 : decode prog_8_method_40_code 35 = .ok (.aload_n 0, 1) := by decide +kernel
theorem d_Y_settled_36 : decode prog_8_method_40_code 36 = .ok (.invokevirtual 156, 3) := by decide +kernel
theorem d_Y_settled_39 : decode prog_8_method_40_code 39 = .ok (.aload_n 0, 1) := by decide +kernel
theorem d_Y_settled_40 : decode prog_8_method_40_code 40 = .ok (.invokevirtual 142, 3) := by decide +kernel
theorem d_Y_settled_43 : decode prog_8_method_40_code 43 = .ok (.istore_n 3, 1) := by decide +kernel
theorem d_Y_settled_44 : decode prog_8_method_40_code 44 = .ok (.iconst 0, 1) := by decide +kernel
theorem d_Y_settled_45 : decode prog_8_method_40_code 45 = .ok (.istore 4, 2) := by decide +kernel
theorem d_Y_settled_47 : decode prog_8_method_40_code 47 = .ok (.iconst 0, 1) := by decide +kernel
theorem d_Y_settled_48 : decode prog_8_method_40_code 48 = .ok (.istore 5, 2) := by decide +kernel
theorem d_Y_settled_50 : decode prog_8_method_40_code 50 = .ok (.iload 5, 2) := by decide +kernel
theorem d_Y_settled_52 : decode prog_8_method_40_code 52 = .ok (.iload_n 3, 1) := by decide +kernel
theorem d_Y_settled_53 : decode prog_8_method_40_code 53 = .ok (.if_icmp .ge 49, 3) := by decide +kernel
theorem d_Y_settled_56 : decode prog_8_method_40_code 56 = .ok (.iload 4, 2) := by decide +kernel
theorem d_Y_settled_58 : decode prog_8_method_40_code 58 = .ok (.aload_n 0, 1) := by decide +kernel
theorem d_Y_settled_59 : decode prog_8_method_40_code 59 = .ok (.getfield 51, 3) := by decide +kernel
theorem d_Y_settled_62 : decode prog_8_method_40_code 62 = .ok (.iload 5, 2) := by decide +kernel
theorem d_Y_settled_64 : decode prog_8_method_40_code 64 = .ok (.iaload, 1) := by decide +kernel
theorem d_Y_settled_65 : decode prog_8_method_40_code 65 = .ok (.iload_n 1, 1) := by decide +kernel
theorem d_Y_settled_66 : decode prog_8_method_40_code 66 = .ok (.if_icmp .ne 26, 3) := by decide +kernel
theorem d_Y_settled_69 : decode prog_8_method_40_code 69 = .ok (.aload_n 0, 1) := by decide +kernel
theorem d_Y_settled_70 : decode prog_8_method_40_code 70 = .ok (.getfield 54, 3) := by decide +kernel
theorem d_Y_settled_73 : decode prog_8_method_40_code 73 = .ok (.iload 5, 2) := by decide +kernel
theorem d_Y_settled_75 : decode prog_8_method_40_code 75 = .ok (.iaload, 1) := by decide +kernel
theorem d_Y_settled_76 : decode prog_8_method_40_code 76 = .ok (.iload_n 2, 1) := by decide +kernel
theorem d_Y_settled_77 : decode prog_8_method_40_code 77 = .ok (.if_icmp .ne 15, 3) := by decide +kernel
theorem d_Y_settled_80 : decode prog_8_method_40_code 80 = .ok (.aload_n 0, 1) := by decide +kernel
theorem d_Y_settled_81 : decode prog_8_method_40_code 81 = .ok (.getfield 149, 3) := by decide +kernel
theorem d_Y_settled_84 : decode prog_8_method_40_code 84 = .ok (.iload 5, 2) := by decide +kernel
theorem d_Y_settled_86 : decode prog_8_method_40_code 86 = .ok (.ishr, 1) := by decide +kernel
theorem d_Y_settled_87 : decode prog_8_method_40_code 87 = .ok (.iconst 1, 1) := by decide +kernel
theorem d_Y_settled_88 : decode prog_8_method_40_code 88 = .ok (.iand, 1) := by decide +kernel
theorem d_Y_settled_89 : decode prog_8_method_40_code 89 = .ok (.goto 4, 3) := by decide +kernel
theorem d_Y_settled_92 : decode prog_8_method_40_code 92 = .ok (.iconst 0, 1) := by decide +kernel
theorem d_Y_settled_93 : decode prog_8_method_40_code 93 = .ok (.ior, 1) := by decide +kernel
theorem d_Y_settled_94 : decode prog_8_method_40_code 94 = .ok (.istore 4, 2) := by decide +kernel
theorem d_Y_settled_96 : decode prog_8_method_40_code 96 = .ok (.iinc 5 1, 3) := by decide +kernel
theorem d_Y_settled_99 : decode prog_8_method_40_code 99 = .ok (.goto (-49), 3) := by decide +kernel
theorem d_Y_settled_102 : decode prog_8_method_40_code 102 = .ok (.iload 4, 2) := by decide +kernel
theorem d_Y_settled_104 : decode prog_8_method_40_code 104 = .ok (.ireturn, 1) := by decide +kernel
theorem d_Y_countFamily_0 : decode prog_8_method_39_code 0 = .ok (.aload_n 0, 1) := by decide +kernel
theorem d_Y_countFamily_1 : decode prog_8_method_39_code 1 = .ok (.getfield 74, 3) := by decide +kernel
theorem d_Y_countFamily_4 : decode prog_8_method_39_code 4 = .ok (.ifCond .eq 4, 3) := by decide +kernel
theorem d_Y_countFamily_7 : decode prog_8_method_39_code 7 = .ok (.return_, 1) := by decide +kernel
theorem d_Y_countFamily_8 : decode prog_8_method_39_code 8 = .ok (.aload_n 0, 1) := by decide +kernel
theorem d_Y_countFamily_9 : decode prog_8_method_39_code 9 = .ok (.iconst 1, 1) := by decide +kernel
theorem d_Y_countFamily_10 : decode prog_8_method_39_code 10 = .ok (.putfield 74, 3) := by decide +kernel
theorem d_Y_countFamily_13 : decode prog_8_method_39_code 13 = .ok (.aload_n 0, 1) := by decide +kernel
theorem d_Y_countFamily_14 : decode prog_8_method_39_code 14 = .ok (.invokevirtual 142, 3) := by decide +kernel
theorem d_Y_countFamily_17 : decode prog_8_method_39_code 17 = .ok (.istore_n 1, 1) := by decide +kernel
theorem d_Y_countFamily_18 : decode prog_8_method_39_code 18 = .ok (.aload_n 0, 1) := by decide +kernel
theorem d_Y_countFamily_19 : decode prog_8_method_39_code 19 = .ok (.iconst 0, 1) := by decide +kernel
theorem d_Y_countFamily_20 : decode prog_8_method_39_code 20 = .ok (.putfield 146, 3) := by decide +kernel
theorem d_Y_countFamily_23 : decode prog_8_method_39_code 23 = .ok (.aload_n 0, 1) := by decide +kernel
theorem d_Y_countFamily_24 : decode prog_8_method_39_code 24 = .ok (.iconst 1, 1) := by decide +kernel
theorem d_Y_countFamily_25 : decode prog_8_method_39_code 25 = .ok (.iload_n 1, 1) := by decide +kernel
theorem d_Y_countFamily_26 : decode prog_8_method_39_code 26 = .ok (.ishl, 1) := by decide +kernel
theorem d_Y_countFamily_27 : decode prog_8_method_39_code 27 = .ok (.iconst 1, 1) := by decide +kernel
theorem d_Y_countFamily_28 : decode prog_8_method_39_code 28 = .ok (.isub, 1) := by decide +kernel
theorem d_Y_countFamily_29 : decode prog_8_method_39_code 29 = .ok (.putfield 149, 3) := by decide +kernel
theorem d_Y_countFamily_32 : decode prog_8_method_39_code 32 = .ok (.aload_n 0, 1) := by decide +kernel
theorem d_Y_countFamily_33 : decode prog_8_method_39_code 33 = .ok (.invokevirtual 135, 3) := by decide +kernel
theorem d_Y_countFamily_36 : decode prog_8_method_39_code 36 = .ok (.iconst 0, 1) := by decide +kernel
theorem d_Y_countFamily_37 : decode prog_8_method_39_code 37 = .ok (.istore_n 2, 1) := by decide +kernel
theorem d_Y_countFamily_38 : decode prog_8_method_39_code 38 = .ok (.iload_n 2, 1) := by decide +kernel
theorem d_Y_countFamily_39 : decode prog_8_method_39_code 39 = .ok (.iconst 1, 1) := by decide +kernel
theorem d_Y_countFamily_40 : decode prog_8_method_39_code 40 = .ok (.iload_n 1, 1) := by decide +kernel
theorem d_Y_countFamily_41 : decode prog_8_method_39_code 41 = .ok (.ishl, 1) := by decide +kernel
theorem d_Y_countFamily_42 : decode prog_8_method_39_code 42 = .ok (.if_icmp .ge 153, 3) := by decide +kernel
theorem d_Y_countFamily_45 : decode prog_8_method_39_code 45 = .ok (.iconst 0, 1) := by decide +kernel
theorem d_Y_countFamily_46 : decode prog_8_method_39_code 46 = .ok (.istore_n 3, 1) := by decide +kernel
theorem d_Y_countFamily_47 : decode prog_8_method_39_code 47 = .ok (.iload_n 3, 1) := by decide +kernel
theorem d_Y_countFamily_48 : decode prog_8_method_39_code 48 = .ok (.bipush 8, 2) := by decide +kernel
theorem d_Y_countFamily_50 : decode prog_8_method_39_code 50 = .ok (.if_icmp .ge 16, 3) := by decide +kernel
theorem d_Y_countFamily_53 : decode prog_8_method_39_code 53 = .ok (.aload_n 0, 1) := by decide +kernel
theorem d_Y_countFamily_54 : decode prog_8_method_39_code 54 = .ok (.getfield 57, 3) := by decide +kernel
theorem d_Y_countFamily_57 : decode prog_8_method_39_code 57 = .ok (.iload_n 3, 1) := by decide +kernel
theorem d_Y_countFamily_58 : decode prog_8_method_39_code 58 = .ok (.iconst 0, 1) := by decide +kernel
theorem d_Y_countFamily_59 : decode prog_8_method_39_code 59 = .ok (.iastore, 1) := by decide +kernel
theorem d_Y_countFamily_60 : decode prog_8_method_39_code 60 = .ok (.iinc 3 1, 3) := by decide +kernel
theorem d_Y_countFamily_63 : decode prog_8_method_39_code 63 = .ok (.goto (-16), 3) := by decide +kernel
theorem d_Y_countFamily_66 : decode prog_8_method_39_code 66 = .ok (.iconst 0, 1) := by decide +kernel
theorem d_Y_countFamily_67 : decode prog_8_method_39_code 67 = .ok (.istore_n 3, 1) := by decide +kernel
theorem d_Y_countFamily_68 : decode prog_8_method_39_code 68 = .ok (.iload_n 3, 1) := by decide +kernel
theorem d_Y_countFamily_69 : decode prog_8_method_39_code 69 = .ok (.iload_n 1, 1) := by decide +kernel
theorem d_Y_countFamily_70 : decode prog_8_method_39_code 70 = .ok (.if_icmp .ge 79, 3) := by decide +kernel
theorem d_Y_countFamily_73 : decode prog_8_method_39_code 73 = .ok (.iload_n 2, 1) := by decide +kernel
theorem d_Y_countFamily_74 : decode prog_8_method_39_code 74 = .ok (.iload_n 3, 1) := by decide +kernel
theorem d_Y_countFamily_75 : decode prog_8_method_39_code 75 = .ok (.ishr, 1) := by decide +kernel
theorem d_Y_countFamily_76 : decode prog_8_method_39_code 76 = .ok (.iconst 1, 1) := by decide +kernel
theorem d_Y_countFamily_77 : decode prog_8_method_39_code 77 = .ok (.iand, 1) := by decide +kernel
theorem d_Y_countFamily_78 : decode prog_8_method_39_code 78 = .ok (.iconst 1, 1) := by decide +kernel
theorem d_Y_countFamily_79 : decode prog_8_method_39_code 79 = .ok (.if_icmp .ne 7, 3) := by decide +kernel
theorem d_Y_countFamily_82 : decode prog_8_method_39_code 82 = .ok (.iconst 1, 1) := by decide +kernel
theorem d_Y_countFamily_83 : decode prog_8_method_39_code 83 = .ok (.goto 4, 3) := by decide +kernel
theorem d_Y_countFamily_86 : decode prog_8_method_39_code 86 = .ok (.iconst 0, 1) := by decide +kernel
theorem d_Y_countFamily_87 : decode prog_8_method_39_code 87 = .ok (.istore 4, 2) := by decide +kernel
theorem d_Y_countFamily_89 : decode prog_8_method_39_code 89 = .ok (.iload 4, 2) := by decide +kernel
theorem d_Y_countFamily_91 : decode prog_8_method_39_code 91 = .ok (.ifCond .eq 12, 3) := by decide +kernel
theorem d_Y_countFamily_94 : decode prog_8_method_39_code 94 = .ok (.aload_n 0, 1) := by decide +kernel
theorem d_Y_countFamily_95 : decode prog_8_method_39_code 95 = .ok (.getfield 51, 3) := by decide +kernel
theorem d_Y_countFamily_98 : decode prog_8_method_39_code 98 = .ok (.iload_n 3, 1) := by decide +kernel
theorem d_Y_countFamily_99 : decode prog_8_method_39_code 99 = .ok (.iaload, 1) := by decide +kernel
theorem d_Y_countFamily_100 : decode prog_8_method_39_code 100 = .ok (.goto 9, 3) := by decide +kernel
theorem d_Y_countFamily_103 : decode prog_8_method_39_code 103 = .ok (.aload_n 0, 1) := by decide +kernel
theorem d_Y_countFamily_104 : decode prog_8_method_39_code 104 = .ok (.getfield 54, 3) := by decide +kernel
theorem d_Y_countFamily_107 : decode prog_8_method_39_code 107 = .ok (.iload_n 3, 1) := by decide +kernel
theorem d_Y_countFamily_108 : decode prog_8_method_39_code 108 = .ok (.iaload, 1) := by decide +kernel
theorem d_Y_countFamily_109 : decode prog_8_method_39_code 109 = .ok (.istore 5, 2) := by decide +kernel
theorem d_Y_countFamily_111 : decode prog_8_method_39_code 111 = .ok (.aload_n 0, 1) := by decide +kernel
theorem d_Y_countFamily_112 : decode prog_8_method_39_code 112 = .ok (.getfield 57, 3) := by decide +kernel
theorem d_Y_countFamily_115 : decode prog_8_method_39_code 115 = .ok (.iload 5, 2) := by decide +kernel
theorem d_Y_countFamily_117 : decode prog_8_method_39_code 117 = .ok (.dup2, 1) := by decide +kernel
theorem d_Y_countFamily_118 : decode prog_8_method_39_code 118 = .ok (.iaload, 1) := by decide +kernel
theorem d_Y_countFamily_119 : decode prog_8_method_39_code 119 = .ok (.iconst 1, 1) := by decide +kernel
theorem d_Y_countFamily_120 : decode prog_8_method_39_code 120 = .ok (.iload 4, 2) := by decide +kernel
theorem d_Y_countFamily_122 : decode prog_8_method_39_code 122 = .ok (.ifCond .eq 12, 3) := by decide +kernel
theorem d_Y_countFamily_125 : decode prog_8_method_39_code 125 = .ok (.aload_n 0, 1) := by decide +kernel
theorem d_Y_countFamily_126 : decode prog_8_method_39_code 126 = .ok (.getfield 54, 3) := by decide +kernel
theorem d_Y_countFamily_129 : decode prog_8_method_39_code 129 = .ok (.iload_n 3, 1) := by decide +kernel
theorem d_Y_countFamily_130 : decode prog_8_method_39_code 130 = .ok (.iaload, 1) := by decide +kernel
theorem d_Y_countFamily_131 : decode prog_8_method_39_code 131 = .ok (.goto 9, 3) := by decide +kernel
theorem d_Y_countFamily_134 : decode prog_8_method_39_code 134 = .ok (.aload_n 0, 1) := by decide +kernel
theorem d_Y_countFamily_135 : decode prog_8_method_39_code 135 = .ok (.getfield 51, 3) := by decide +kernel
theorem d_Y_countFamily_138 : decode prog_8_method_39_code 138 = .ok (.iload_n 3, 1) := by decide +kernel
theorem d_Y_countFamily_139 : decode prog_8_method_39_code 139 = .ok (.iaload, 1) := by decide +kernel
theorem d_Y_countFamily_140 : decode prog_8_method_39_code 140 = .ok (.ishl, 1) := by decide +kernel
theorem d_Y_countFamily_141 : decode prog_8_method_39_code 141 = .ok (.ior, 1) := by decide +kernel
theorem d_Y_countFamily_142 : decode prog_8_method_39_code 142 = .ok (.iastore, 1) := by decide +kernel
theorem d_Y_countFamily_143 : decode prog_8_method_39_code 143 = .ok (.iinc 3 1, 3) := by decide +kernel
theorem d_Y_countFamily_146 : decode prog_8_method_39_code 146 = .ok (.goto (-78), 3) := by decide +kernel
theorem d_Y_countFamily_149 : decode prog_8_method_39_code 149 = .ok (.aload_n 0, 1) := by decide +kernel
theorem d_Y_countFamily_150 : decode prog_8_method_39_code 150 = .ok (.invokevirtual 152, 3) := by decide +kernel
theorem d_Y_countFamily_153 : decode prog_8_method_39_code 153 = .ok (.ifCond .eq 36, 3) := by decide +kernel
theorem d_Y_countFamily_156 : decode prog_8_method_39_code 156 = .ok (.aload_n 0, 1) := by decide +kernel
theorem d_Y_countFamily_157 : decode prog_8_method_39_code 157 = .ok (.aload_n 0, 1) := by decide +kernel
theorem d_Y_countFamily_158 : decode prog_8_method_39_code 158 = .ok (.getfield 57, 3) := by decide +kernel
theorem d_Y_countFamily_161 : decode prog_8_method_39_code 161 = .ok (.invokevirtual 138, 3) := by decide +kernel
theorem d_Y_countFamily_164 : decode prog_8_method_39_code 164 = .ok (.ifCond .eq 25, 3) := by decide +kernel
theorem d_Y_countFamily_167 : decode prog_8_method_39_code 167 = .ok (.aload_n 0, 1) := by decide +kernel
theorem d_Y_countFamily_168 : decode prog_8_method_39_code 168 = .ok (.dup, 1) := by decide +kernel
theorem d_Y_countFamily_169 : decode prog_8_method_39_code 169 = .ok (.getfield 146, 3) := by decide +kernel
theorem d_Y_countFamily_172 : decode prog_8_method_39_code 172 = .ok (.iconst 1, 1) := by decide +kernel
theorem d_Y_countFamily_173 : decode prog_8_method_39_code 173 = .ok (.iadd, 1) := by decide +kernel
theorem d_Y_countFamily_174 : decode prog_8_method_39_code 174 = .ok (.putfield 146, 3) := by decide +kernel
theorem d_Y_countFamily_177 : decode prog_8_method_39_code 177 = .ok (.aload_n 0, 1) := by decide +kernel
theorem d_Y_countFamily_178 : decode prog_8_method_39_code 178 = .ok (.dup, 1) := by decide +kernel
theorem d_Y_countFamily_179 : decode prog_8_method_39_code 179 = .ok (.getfield 149, 3) := by decide +kernel
theorem d_Y_countFamily_182 : decode prog_8_method_39_code 182 = .ok (.iload_n 2, 1) := by decide +kernel
theorem d_Y_countFamily_183 : decode prog_8_method_39_code 183 = .ok (.iconst (-1), 1) := by decide +kernel
theorem d_Y_countFamily_184 : decode prog_8_method_39_code 184 = .ok (.ixor, 1) := by decide +kernel
theorem d_Y_countFamily_185 : decode prog_8_method_39_code 185 = .ok (.iand, 1) := by decide +kernel
theorem d_Y_countFamily_186 : decode prog_8_method_39_code 186 = .ok (.putfield 149, 3) := by decide +kernel
theorem d_Y_countFamily_189 : decode prog_8_method_39_code 189 = .ok (.iinc 2 1, 3) := by decide +kernel
theorem d_Y_countFamily_192 : decode prog_8_method_39_code 192 = .ok (.goto (-154), 3) := by decide +kernel
theorem d_Y_countFamily_195 : decode prog_8_method_39_code 195 = .ok (.return_, 1) := by decide +kernel
theorem d_Y_listArcs_0 : decode prog_8_method_37_code 0 = .ok (.iconst 0, 1) := by decide +kernel
theorem d_Y_listArcs_1 : decode prog_8_method_37_code 1 = .ok (.istore_n 1, 1) := by decide +kernel
theorem d_Y_listArcs_2 : decode prog_8_method_37_code 2 = .ok (.iconst 0, 1) := by decide +kernel
theorem d_Y_listArcs_3 : decode prog_8_method_37_code 3 = .ok (.istore_n 2, 1) := by decide +kernel
theorem d_Y_listArcs_4 : decode prog_8_method_37_code 4 = .ok (.iload_n 2, 1) := by decide +kernel
theorem d_Y_listArcs_5 : decode prog_8_method_37_code 5 = .ok (.aload_n 0, 1) := by decide +kernel
theorem d_Y_listArcs_6 : decode prog_8_method_37_code 6 = .ok (.getfield 63, 3) := by decide +kernel
theorem d_Y_listArcs_9 : decode prog_8_method_37_code 9 = .ok (.if_icmp .ge 51, 3) := by decide +kernel
theorem d_Y_listArcs_12 : decode prog_8_method_37_code 12 = .ok (.iconst 0, 1) := by decide +kernel
theorem d_Y_listArcs_13 : decode prog_8_method_37_code 13 = .ok (.istore_n 3, 1) := by decide +kernel
theorem d_Y_listArcs_14 : decode prog_8_method_37_code 14 = .ok (.iload_n 3, 1) := by decide +kernel
theorem d_Y_listArcs_15 : decode prog_8_method_37_code 15 = .ok (.aload_n 0, 1) := by decide +kernel
theorem d_Y_listArcs_16 : decode prog_8_method_37_code 16 = .ok (.getfield 63, 3) := by decide +kernel
theorem d_Y_listArcs_19 : decode prog_8_method_37_code 19 = .ok (.if_icmp .ge 35, 3) := by decide +kernel
theorem d_Y_listArcs_22 : decode prog_8_method_37_code 22 = .ok (.aload_n 0, 1) := by decide +kernel
theorem d_Y_listArcs_23 : decode prog_8_method_37_code 23 = .ok (.iload_n 3, 1) := by decide +kernel
theorem d_Y_listArcs_24 : decode prog_8_method_37_code 24 = .ok (.iload_n 2, 1) := by decide +kernel
theorem d_Y_listArcs_25 : decode prog_8_method_37_code 25 = .ok (.invokevirtual 92, 3) := by decide +kernel
theorem d_Y_listArcs_28 : decode prog_8_method_37_code 28 = .ok (.ifCond .eq 20, 3) := by decide +kernel
theorem d_Y_listArcs_31 : decode prog_8_method_37_code 31 = .ok (.aload_n 0, 1) := by decide +kernel
theorem d_Y_listArcs_32 : decode prog_8_method_37_code 32 = .ok (.getfield 51, 3) := by decide +kernel
theorem d_Y_listArcs_35 : decode prog_8_method_37_code 35 = .ok (.iload_n 1, 1) := by decide +kernel
theorem d_Y_listArcs_36 : decode prog_8_method_37_code 36 = .ok (.iload_n 3, 1) := by decide +kernel
theorem d_Y_listArcs_37 : decode prog_8_method_37_code 37 = .ok (.iastore, 1) := by decide +kernel
theorem d_Y_listArcs_38 : decode prog_8_method_37_code 38 = .ok (.aload_n 0, 1) := by decide +kernel
theorem d_Y_listArcs_39 : decode prog_8_method_37_code 39 = .ok (.getfield 54, 3) := by decide +kernel
theorem d_Y_listArcs_42 : decode prog_8_method_37_code 42 = .ok (.iload_n 1, 1) := by decide +kernel
theorem d_Y_listArcs_43 : decode prog_8_method_37_code 43 = .ok (.iload_n 2, 1) := by decide +kernel
theorem d_Y_listArcs_44 : decode prog_8_method_37_code 44 = .ok (.iastore, 1) := by decide +kernel
theorem d_Y_listArcs_45 : decode prog_8_method_37_code 45 = .ok (.iinc 1 1, 3) := by decide +kernel
theorem d_Y_listArcs_48 : decode prog_8_method_37_code 48 = .ok (.iinc 3 1, 3) := by decide +kernel
theorem d_Y_listArcs_51 : decode prog_8_method_37_code 51 = .ok (.goto (-37), 3) := by decide +kernel
theorem d_Y_listArcs_54 : decode prog_8_method_37_code 54 = .ok (.iinc 2 1, 3) := by decide +kernel
theorem d_Y_listArcs_57 : decode prog_8_method_37_code 57 = .ok (.goto (-53), 3) := by decide +kernel
theorem d_Y_listArcs_60 : decode prog_8_method_37_code 60 = .ok (.iload_n 1, 1) := by decide +kernel
theorem d_Y_listArcs_61 : decode prog_8_method_37_code 61 = .ok (.ireturn, 1) := by decide +kernel
theorem d_Y_hasNoRing_0 : decode prog_8_method_38_code 0 = .ok (.iconst 1, 1) := by decide +kernel
theorem d_Y_hasNoRing_1 : decode prog_8_method_38_code 1 = .ok (.aload_n 0, 1) := by decide +kernel
theorem d_Y_hasNoRing_2 : decode prog_8_method_38_code 2 = .ok (.getfield 63, 3) := by decide +kernel
theorem d_Y_hasNoRing_5 : decode prog_8_method_38_code 5 = .ok (.ishl, 1) := by decide +kernel
theorem d_Y_hasNoRing_6 : decode prog_8_method_38_code 6 = .ok (.iconst 1, 1) := by decide +kernel
theorem d_Y_hasNoRing_7 : decode prog_8_method_38_code 7 = .ok (.isub, 1) := by decide +kernel
theorem d_Y_hasNoRing_8 : decode prog_8_method_38_code 8 = .ok (.istore_n 1, 1) := by decide +kernel
theorem d_Y_hasNoRing_9 : decode prog_8_method_38_code 9 = .ok (.iconst 0, 1) := by decide +kernel
theorem d_Y_hasNoRing_10 : decode prog_8_method_38_code 10 = .ok (.istore_n 2, 1) := by decide +kernel
theorem d_Y_hasNoRing_11 : decode prog_8_method_38_code 11 = .ok (.iload_n 1, 1) := by decide +kernel
theorem d_Y_hasNoRing_12 : decode prog_8_method_38_code 12 = .ok (.iload_n 2, 1) := by decide +kernel
theorem d_Y_hasNoRing_13 : decode prog_8_method_38_code 13 = .ok (.if_icmp .eq 47, 3) := by decide +kernel
theorem d_Y_hasNoRing_16 : decode prog_8_method_38_code 16 = .ok (.iload_n 1, 1) := by decide +kernel
theorem d_Y_hasNoRing_17 : decode prog_8_method_38_code 17 = .ok (.istore_n 2, 1) := by decide +kernel
theorem d_Y_hasNoRing_18 : decode prog_8_method_38_code 18 = .ok (.iconst 0, 1) := by decide +kernel
theorem d_Y_hasNoRing_19 : decode prog_8_method_38_code 19 = .ok (.istore_n 3, 1) := by decide +kernel
theorem d_Y_hasNoRing_20 : decode prog_8_method_38_code 20 = .ok (.iload_n 3, 1) := by decide +kernel
theorem d_Y_hasNoRing_21 : decode prog_8_method_38_code 21 = .ok (.aload_n 0, 1) := by decide +kernel
theorem d_Y_hasNoRing_22 : decode prog_8_method_38_code 22 = .ok (.getfield 63, 3) := by decide +kernel
theorem d_Y_hasNoRing_25 : decode prog_8_method_38_code 25 = .ok (.if_icmp .ge 32, 3) := by decide +kernel
theorem d_Y_hasNoRing_28 : decode prog_8_method_38_code 28 = .ok (.iload_n 1, 1) := by decide +kernel
theorem d_Y_hasNoRing_29 : decode prog_8_method_38_code 29 = .ok (.aload_n 0, 1) := by decide +kernel
theorem d_Y_hasNoRing_30 : decode prog_8_method_38_code 30 = .ok (.getfield 57, 3) := by decide +kernel
theorem d_Y_hasNoRing_33 : decode prog_8_method_38_code 33 = .ok (.iload_n 3, 1) := by decide +kernel
theorem d_Y_hasNoRing_34 : decode prog_8_method_38_code 34 = .ok (.iaload, 1) := by decide +kernel
theorem d_Y_hasNoRing_35 : decode prog_8_method_38_code 35 = .ok (.iload_n 1, 1) := by decide +kernel
theorem d_Y_hasNoRing_36 : decode prog_8_method_38_code 36 = .ok (.iand, 1) := by decide +kernel
theorem d_Y_hasNoRing_37 : decode prog_8_method_38_code 37 = .ok (.ifCond .ne 11, 3) := by decide +kernel
theorem d_Y_hasNoRing_40 : decode prog_8_method_38_code 40 = .ok (.iconst 1, 1) := by decide +kernel
theorem d_Y_hasNoRing_41 : decode prog_8_method_38_code 41 = .ok (.iload_n 3, 1) := by decide +kernel
theorem d_Y_hasNoRing_42 : decode prog_8_method_38_code 42 = .ok (.ishl, 1) := by decide +kernel
theorem d_Y_hasNoRing_43 : decode prog_8_method_38_code 43 = .ok (.iconst (-1), 1) := by decide +kernel
theorem d_Y_hasNoRing_44 : decode prog_8_method_38_code 44 = .ok (.ixor, 1) := by decide +kernel
theorem d_Y_hasNoRing_45 : decode prog_8_method_38_code 45 = .ok (.goto 4, 3) := by decide +kernel
theorem d_Y_hasNoRing_48 : decode prog_8_method_38_code 48 = .ok (.iconst (-1), 1) := by decide +kernel
theorem d_Y_hasNoRing_49 : decode prog_8_method_38_code 49 = .ok (.iand, 1) := by decide +kernel
theorem d_Y_hasNoRing_50 : decode prog_8_method_38_code 50 = .ok (.istore_n 1, 1) := by decide +kernel
theorem d_Y_hasNoRing_51 : decode prog_8_method_38_code 51 = .ok (.iinc 3 1, 3) := by decide +kernel
theorem d_Y_hasNoRing_54 : decode prog_8_method_38_code 54 = .ok (.goto (-34), 3) := by decide +kernel
theorem d_Y_hasNoRing_57 : decode prog_8_method_38_code 57 = .ok (.goto (-46), 3) := by decide +kernel
theorem d_Y_hasNoRing_60 : decode prog_8_method_38_code 60 = .ok (.iload_n 1, 1) := by decide +kernel
theorem d_Y_hasNoRing_61 : decode prog_8_method_38_code 61 = .ok (.ifCond .ne 7, 3) := by decide +kernel
theorem d_Y_hasNoRing_64 : decode prog_8_method_38_code 64 = .ok (.iconst 1, 1) := by decide +kernel
theorem d_Y_hasNoRing_65 : decode prog_8_method_38_code 65 = .ok (.goto 4, 3) := by decide +kernel
theorem d_Y_hasNoRing_68 : decode prog_8_method_38_code 68 = .ok (.iconst 0, 1) := by decide +kernel
theorem d_Y_hasNoRing_69 : decode prog_8_method_38_code 69 = .ok (.ireturn, 1) := by decide +kernel
theorem d_Y_family_0 : decode prog_8_method_41_code 0 = .ok (.aload_n 0, 1) := by decide +kernel
theorem d_Y_family_1 : decode prog_8_method_41_code 1 = .ok (.invokevirtual 156, 3) := by decide +kernel
theorem d_Y_family_4 : decode prog_8_method_41_code 4 = .ok (.aload_n 0, 1) := by decide +kernel
theorem d_Y_family_5 : decode prog_8_method_41_code 5 = .ok (.getfield 146, 3) := by decide +kernel
theorem d_Y_family_8 : decode prog_8_method_41_code 8 = .ok (.ireturn, 1) := by decide +kernel
theorem d_Y_count_0 : decode prog_8_method_42_code 0 = .ok (.iload_n 1, 1) := by decide +kernel
theorem d_Y_count_1 : decode prog_8_method_42_code 1 = .ok (.ifCond .ne 8, 3) := by decide +kernel
theorem d_Y_count_4 : decode prog_8_method_42_code 4 = .ok (.aload_n 0, 1) := by decide +kernel
theorem d_Y_count_5 : decode prog_8_method_42_code 5 = .ok (.getfield 63, 3) := by decide +kernel
theorem d_Y_count_8 : decode prog_8_method_42_code 8 = .ok (.ireturn, 1) := by decide +kernel
theorem d_Y_count_9 : decode prog_8_method_42_code 9 = .ok (.iload_n 1, 1) := by decide +kernel
theorem d_Y_count_10 : decode prog_8_method_42_code 10 = .ok (.iconst 1, 1) := by decide +kernel
theorem d_Y_count_11 : decode prog_8_method_42_code 11 = .ok (.if_icmp .ne 8, 3) := by decide +kernel
theorem d_Y_count_14 : decode prog_8_method_42_code 14 = .ok (.aload_n 0, 1) := by decide +kernel
theorem d_Y_count_15 : decode prog_8_method_42_code 15 = .ok (.getfield 67, 3) := by decide +kernel
theorem d_Y_count_18 : decode prog_8_method_42_code 18 = .ok (.ireturn, 1) := by decide +kernel
theorem d_Y_count_19 : decode prog_8_method_42_code 19 = .ok (.iload_n 1, 1) := by decide +kernel
theorem d_Y_count_20 : decode prog_8_method_42_code 20 = .ok (.iconst 2, 1) := by decide +kernel
theorem d_Y_count_21 : decode prog_8_method_42_code 21 = .ok (.if_icmp .ne 15, 3) := by decide +kernel
theorem d_Y_count_24 : decode prog_8_method_42_code 24 = .ok (.aload_n 0, 1) := by decide +kernel
theorem d_Y_count_25 : decode prog_8_method_42_code 25 = .ok (.invokevirtual 156, 3) := by decide +kernel
theorem d_Y_count_28 : decode prog_8_method_42_code 28 = .ok (.aload_n 0, 1) := by decide +kernel
theorem d_Y_count_29 : decode prog_8_method_42_code 29 = .ok (.getfield 149, 3) := by decide +kernel
theorem d_Y_count_32 : decode prog_8_method_42_code 32 = .ok (.invokestatic 96, 3) := by decide +kernel
theorem d_Y_count_35 : decode prog_8_method_42_code 35 = .ok (.ireturn, 1) := by decide +kernel
theorem d_Y_count_36 : decode prog_8_method_42_code 36 = .ok (.iload_n 1, 1) := by decide +kernel
theorem d_Y_count_37 : decode prog_8_method_42_code 37 = .ok (.iconst 3, 1) := by decide +kernel
theorem d_Y_count_38 : decode prog_8_method_42_code 38 = .ok (.if_icmp .ne 41, 3) := by decide +kernel
theorem d_Y_count_41 : decode prog_8_method_42_code 41 = .ok (.iconst 0, 1) := by decide +kernel
theorem d_Y_count_42 : decode prog_8_method_42_code 42 = .ok (.istore_n 2, 1) := by decide +kernel
theorem d_Y_count_43 : decode prog_8_method_42_code 43 = .ok (.iconst 0, 1) := by decide +kernel
theorem d_Y_count_44 : decode prog_8_method_42_code 44 = .ok (.istore_n 3, 1) := by decide +kernel
theorem d_Y_count_45 : decode prog_8_method_42_code 45 = .ok (.iload_n 3, 1) := by decide +kernel
theorem d_Y_count_46 : decode prog_8_method_42_code 46 = .ok (.aload_n 0, 1) := by decide +kernel
theorem d_Y_count_47 : decode prog_8_method_42_code 47 = .ok (.getfield 63, 3) := by decide +kernel
theorem d_Y_count_50 : decode prog_8_method_42_code 50 = .ok (.if_icmp .ge 27, 3) := by decide +kernel
theorem d_Y_count_53 : decode prog_8_method_42_code 53 = .ok (.iload_n 2, 1) := by decide +kernel
theorem d_Y_count_54 : decode prog_8_method_42_code 54 = .ok (.aload_n 0, 1) := by decide +kernel
theorem d_Y_count_55 : decode prog_8_method_42_code 55 = .ok (.getfield 13, 3) := by decide +kernel
theorem d_Y_count_58 : decode prog_8_method_42_code 58 = .ok (.iload_n 3, 1) := by decide +kernel
theorem d_Y_count_59 : decode prog_8_method_42_code 59 = .ok (.iaload, 1) := by decide +kernel
theorem d_Y_count_60 : decode prog_8_method_42_code 60 = .ok (.iconst (-1), 1) := by decide +kernel
theorem d_Y_count_61 : decode prog_8_method_42_code 61 = .ok (.if_icmp .eq 7, 3) := by decide +kernel
theorem d_Y_count_64 : decode prog_8_method_42_code 64 = .ok (.iconst 1, 1) := by decide +kernel
theorem d_Y_count_65 : decode prog_8_method_42_code 65 = .ok (.goto 4, 3) := by decide +kernel
theorem d_Y_count_68 : decode prog_8_method_42_code 68 = .ok (.iconst 0, 1) := by decide +kernel
theorem d_Y_count_69 : decode prog_8_method_42_code 69 = .ok (.iadd, 1) := by decide +kernel
theorem d_Y_count_70 : decode prog_8_method_42_code 70 = .ok (.istore_n 2, 1) := by decide +kernel
theorem d_Y_count_71 : decode prog_8_method_42_code 71 = .ok (.iinc 3 1, 3) := by decide +kernel
theorem d_Y_count_74 : decode prog_8_method_42_code 74 = .ok (.goto (-29), 3) := by decide +kernel
theorem d_Y_count_77 : decode prog_8_method_42_code 77 = .ok (.iload_n 2, 1) := by decide +kernel
theorem d_Y_count_78 : decode prog_8_method_42_code 78 = .ok (.ireturn, 1) := by decide +kernel
theorem d_Y_count_79 : decode prog_8_method_42_code 79 = .ok (.bipush (-2), 2) := by decide +kernel
theorem d_Y_count_81 : decode prog_8_method_42_code 81 = .ok (.ireturn, 1) := by decide +kernel
theorem d_L_law_0 : decode code 0 = .ok (.new 7, 3) := by decide +kernel
theorem d_L_law_3 : decode code 3 = .ok (.dup, 1) := by decide +kernel
theorem d_L_law_4 : decode code 4 = .ok (.invokespecial 9, 3) := by decide +kernel
theorem d_L_law_7 : decode code 7 = .ok (.astore_n 1, 1) := by decide +kernel
theorem d_L_law_8 : decode code 8 = .ok (.new 10, 3) := by decide +kernel
theorem d_L_law_11 : decode code 11 = .ok (.dup, 1) := by decide +kernel
theorem d_L_law_12 : decode code 12 = .ok (.invokespecial 12, 3) := by decide +kernel
theorem d_L_law_15 : decode code 15 = .ok (.astore_n 2, 1) := by decide +kernel
theorem d_L_law_16 : decode code 16 = .ok (.iconst 0, 1) := by decide +kernel
theorem d_L_law_17 : decode code 17 = .ok (.istore_n 3, 1) := by decide +kernel
theorem d_L_law_18 : decode code 18 = .ok (.iload_n 3, 1) := by decide +kernel
theorem d_L_law_19 : decode code 19 = .ok (.aload_n 0, 1) := by decide +kernel
theorem d_L_law_20 : decode code 20 = .ok (.arraylength, 1) := by decide +kernel
theorem d_L_law_21 : decode code 21 = .ok (.iconst 4, 1) := by decide +kernel
theorem d_L_law_22 : decode code 22 = .ok (.isub, 1) := by decide +kernel
theorem d_L_law_23 : decode code 23 = .ok (.if_icmp .gt 749, 3) := by decide +kernel
theorem d_L_law_26 : decode code 26 = .ok (.aload_n 0, 1) := by decide +kernel
theorem d_L_law_27 : decode code 27 = .ok (.iload_n 3, 1) := by decide +kernel
theorem d_L_law_28 : decode code 28 = .ok (.iaload, 1) := by decide +kernel
theorem d_L_law_29 : decode code 29 = .ok (.bipush 31, 2) := by decide +kernel
theorem d_L_law_31 : decode code 31 = .ok (.iand, 1) := by decide +kernel
theorem d_L_law_32 : decode code 32 = .ok (.tableswitch 734 0 20 #[100, 113, 126, 159, 192, 235, 268, 301, 334, 377, 420, 454, 497, 540, 563, 596, 639, 652, 665, 698, 711], 100) := by decide +kernel
theorem d_L_law_132 : decode code 132 = .ok (.aload_n 1, 1) := by decide +kernel
theorem d_L_law_133 : decode code 133 = .ok (.invokevirtual 13, 3) := by decide +kernel
theorem d_L_law_136 : decode code 136 = .ok (.aload_n 2, 1) := by decide +kernel
theorem d_L_law_137 : decode code 137 = .ok (.invokevirtual 17, 3) := by decide +kernel
theorem d_L_law_140 : decode code 140 = .ok (.if_icmp .eq 626, 3) := by decide +kernel
theorem d_L_law_143 : decode code 143 = .ok (.iconst 0, 1) := by decide +kernel
theorem d_L_law_144 : decode code 144 = .ok (.ireturn, 1) := by decide +kernel
theorem d_L_law_145 : decode code 145 = .ok (.aload_n 1, 1) := by decide +kernel
theorem d_L_law_146 : decode code 146 = .ok (.invokevirtual 18, 3) := by decide +kernel
theorem d_L_law_149 : decode code 149 = .ok (.aload_n 2, 1) := by decide +kernel
theorem d_L_law_150 : decode code 150 = .ok (.invokevirtual 21, 3) := by decide +kernel
theorem d_L_law_153 : decode code 153 = .ok (.if_icmp .eq 613, 3) := by decide +kernel
theorem d_L_law_156 : decode code 156 = .ok (.iconst 0, 1) := by decide +kernel
theorem d_L_law_157 : decode code 157 = .ok (.ireturn, 1) := by decide +kernel
theorem d_L_law_158 : decode code 158 = .ok (.aload_n 1, 1) := by decide +kernel
theorem d_L_law_159 : decode code 159 = .ok (.aload_n 0, 1) := by decide +kernel
theorem d_L_law_160 : decode code 160 = .ok (.iload_n 3, 1) := by decide +kernel
theorem d_L_law_161 : decode code 161 = .ok (.iconst 1, 1) := by decide +kernel
theorem d_L_law_162 : decode code 162 = .ok (.iadd, 1) := by decide +kernel
theorem d_L_law_163 : decode code 163 = .ok (.iaload, 1) := by decide +kernel
theorem d_L_law_164 : decode code 164 = .ok (.aload_n 0, 1) := by decide +kernel
theorem d_L_law_165 : decode code 165 = .ok (.iload_n 3, 1) := by decide +kernel
theorem d_L_law_166 : decode code 166 = .ok (.iconst 2, 1) := by decide +kernel
theorem d_L_law_167 : decode code 167 = .ok (.iadd, 1) := by decide +kernel
theorem d_L_law_168 : decode code 168 = .ok (.iaload, 1) := by decide +kernel
theorem d_L_law_169 : decode code 169 = .ok (.invokevirtual 22, 3) := by decide +kernel
theorem d_L_law_172 : decode code 172 = .ok (.aload_n 2, 1) := by decide +kernel
theorem d_L_law_173 : decode code 173 = .ok (.aload_n 0, 1) := by decide +kernel
theorem d_L_law_174 : decode code 174 = .ok (.iload_n 3, 1) := by decide +kernel
theorem d_L_law_175 : decode code 175 = .ok (.iconst 1, 1) := by decide +kernel
theorem d_L_law_176 : decode code 176 = .ok (.iadd, 1) := by decide +kernel
theorem d_L_law_177 : decode code 177 = .ok (.iaload, 1) := by decide +kernel
theorem d_L_law_178 : decode code 178 = .ok (.aload_n 0, 1) := by decide +kernel
theorem d_L_law_179 : decode code 179 = .ok (.iload_n 3, 1) := by decide +kernel
theorem d_L_law_180 : decode code 180 = .ok (.iconst 2, 1) := by decide +kernel
theorem d_L_law_181 : decode code 181 = .ok (.iadd, 1) := by decide +kernel
theorem d_L_law_182 : decode code 182 = .ok (.iaload, 1) := by decide +kernel
theorem d_L_law_183 : decode code 183 = .ok (.invokevirtual 26, 3) := by decide +kernel
theorem d_L_law_186 : decode code 186 = .ok (.if_icmp .eq 580, 3) := by decide +kernel
theorem d_L_law_189 : decode code 189 = .ok (.iconst 0, 1) := by decide +kernel
theorem d_L_law_190 : decode code 190 = .ok (.ireturn, 1) := by decide +kernel
theorem d_L_law_191 : decode code 191 = .ok (.aload_n 1, 1) := by decide +kernel
theorem d_L_law_192 : decode code 192 = .ok (.aload_n 0, 1) := by decide +kernel
theorem d_L_law_193 : decode code 193 = .ok (.iload_n 3, 1) := by decide +kernel
theorem d_L_law_194 : decode code 194 = .ok (.iconst 1, 1) := by decide +kernel
theorem d_L_law_195 : decode code 195 = .ok (.iadd, 1) := by decide +kernel
theorem d_L_law_196 : decode code 196 = .ok (.iaload, 1) := by decide +kernel
theorem d_L_law_197 : decode code 197 = .ok (.aload_n 0, 1) := by decide +kernel
theorem d_L_law_198 : decode code 198 = .ok (.iload_n 3, 1) := by decide +kernel
theorem d_L_law_199 : decode code 199 = .ok (.iconst 2, 1) := by decide +kernel
theorem d_L_law_200 : decode code 200 = .ok (.iadd, 1) := by decide +kernel
theorem d_L_law_201 : decode code 201 = .ok (.iaload, 1) := by decide +kernel
theorem d_L_law_202 : decode code 202 = .ok (.invokevirtual 27, 3) := by decide +kernel
theorem d_L_law_205 : decode code 205 = .ok (.aload_n 2, 1) := by decide +kernel
theorem d_L_law_206 : decode code 206 = .ok (.aload_n 0, 1) := by decide +kernel
theorem d_L_law_207 : decode code 207 = .ok (.iload_n 3, 1) := by decide +kernel
theorem d_L_law_208 : decode code 208 = .ok (.iconst 1, 1) := by decide +kernel
theorem d_L_law_209 : decode code 209 = .ok (.iadd, 1) := by decide +kernel
theorem d_L_law_210 : decode code 210 = .ok (.iaload, 1) := by decide +kernel
theorem d_L_law_211 : decode code 211 = .ok (.aload_n 0, 1) := by decide +kernel
theorem d_L_law_212 : decode code 212 = .ok (.iload_n 3, 1) := by decide +kernel
theorem d_L_law_213 : decode code 213 = .ok (.iconst 2, 1) := by decide +kernel
theorem d_L_law_214 : decode code 214 = .ok (.iadd, 1) := by decide +kernel
theorem d_L_law_215 : decode code 215 = .ok (.iaload, 1) := by decide +kernel
theorem d_L_law_216 : decode code 216 = .ok (.invokevirtual 30, 3) := by decide +kernel
theorem d_L_law_219 : decode code 219 = .ok (.if_icmp .eq 547, 3) := by decide +kernel
theorem d_L_law_222 : decode code 222 = .ok (.iconst 0, 1) := by decide +kernel
theorem d_L_law_223 : decode code 223 = .ok (.ireturn, 1) := by decide +kernel
theorem d_L_law_224 : decode code 224 = .ok (.aload_n 1, 1) := by decide +kernel
theorem d_L_law_225 : decode code 225 = .ok (.aload_n 0, 1) := by decide +kernel
theorem d_L_law_226 : decode code 226 = .ok (.iload_n 3, 1) := by decide +kernel
theorem d_L_law_227 : decode code 227 = .ok (.iconst 1, 1) := by decide +kernel
theorem d_L_law_228 : decode code 228 = .ok (.iadd, 1) := by decide +kernel
theorem d_L_law_229 : decode code 229 = .ok (.iaload, 1) := by decide +kernel
theorem d_L_law_230 : decode code 230 = .ok (.aload_n 0, 1) := by decide +kernel
theorem d_L_law_231 : decode code 231 = .ok (.iload_n 3, 1) := by decide +kernel
theorem d_L_law_232 : decode code 232 = .ok (.iconst 2, 1) := by decide +kernel
theorem d_L_law_233 : decode code 233 = .ok (.iadd, 1) := by decide +kernel
theorem d_L_law_234 : decode code 234 = .ok (.iaload, 1) := by decide +kernel
theorem d_L_law_235 : decode code 235 = .ok (.aload_n 0, 1) := by decide +kernel
theorem d_L_law_236 : decode code 236 = .ok (.iload_n 3, 1) := by decide +kernel
theorem d_L_law_237 : decode code 237 = .ok (.iconst 3, 1) := by decide +kernel
theorem d_L_law_238 : decode code 238 = .ok (.iadd, 1) := by decide +kernel
theorem d_L_law_239 : decode code 239 = .ok (.iaload, 1) := by decide +kernel
theorem d_L_law_240 : decode code 240 = .ok (.invokevirtual 31, 3) := by decide +kernel
theorem d_L_law_243 : decode code 243 = .ok (.aload_n 2, 1) := by decide +kernel
theorem d_L_law_244 : decode code 244 = .ok (.aload_n 0, 1) := by decide +kernel
theorem d_L_law_245 : decode code 245 = .ok (.iload_n 3, 1) := by decide +kernel
theorem d_L_law_246 : decode code 246 = .ok (.iconst 1, 1) := by decide +kernel
theorem d_L_law_247 : decode code 247 = .ok (.iadd, 1) := by decide +kernel
theorem d_L_law_248 : decode code 248 = .ok (.iaload, 1) := by decide +kernel
theorem d_L_law_249 : decode code 249 = .ok (.aload_n 0, 1) := by decide +kernel
theorem d_L_law_250 : decode code 250 = .ok (.iload_n 3, 1) := by decide +kernel
theorem d_L_law_251 : decode code 251 = .ok (.iconst 2, 1) := by decide +kernel
theorem d_L_law_252 : decode code 252 = .ok (.iadd, 1) := by decide +kernel
theorem d_L_law_253 : decode code 253 = .ok (.iaload, 1) := by decide +kernel
theorem d_L_law_254 : decode code 254 = .ok (.aload_n 0, 1) := by decide +kernel
theorem d_L_law_255 : decode code 255 = .ok (.iload_n 3, 1) := by decide +kernel
theorem d_L_law_256 : decode code 256 = .ok (.iconst 3, 1) := by decide +kernel
theorem d_L_law_257 : decode code 257 = .ok (.iadd, 1) := by decide +kernel
theorem d_L_law_258 : decode code 258 = .ok (.iaload, 1) := by decide +kernel
theorem d_L_law_259 : decode code 259 = .ok (.invokevirtual 35, 3) := by decide +kernel
theorem d_L_law_262 : decode code 262 = .ok (.if_icmp .eq 504, 3) := by decide +kernel
theorem d_L_law_265 : decode code 265 = .ok (.iconst 0, 1) := by decide +kernel
theorem d_L_law_266 : decode code 266 = .ok (.ireturn, 1) := by decide +kernel
theorem d_L_law_267 : decode code 267 = .ok (.aload_n 1, 1) := by decide +kernel
theorem d_L_law_268 : decode code 268 = .ok (.aload_n 0, 1) := by decide +kernel
theorem d_L_law_269 : decode code 269 = .ok (.iload_n 3, 1) := by decide +kernel
theorem d_L_law_270 : decode code 270 = .ok (.iconst 1, 1) := by decide +kernel
theorem d_L_law_271 : decode code 271 = .ok (.iadd, 1) := by decide +kernel
theorem d_L_law_272 : decode code 272 = .ok (.iaload, 1) := by decide +kernel
theorem d_L_law_273 : decode code 273 = .ok (.aload_n 0, 1) := by decide +kernel
theorem d_L_law_274 : decode code 274 = .ok (.iload_n 3, 1) := by decide +kernel
theorem d_L_law_275 : decode code 275 = .ok (.iconst 2, 1) := by decide +kernel
theorem d_L_law_276 : decode code 276 = .ok (.iadd, 1) := by decide +kernel
theorem d_L_law_277 : decode code 277 = .ok (.iaload, 1) := by decide +kernel
theorem d_L_law_278 : decode code 278 = .ok (.invokevirtual 36, 3) := by decide +kernel
theorem d_L_law_281 : decode code 281 = .ok (.aload_n 2, 1) := by decide +kernel
theorem d_L_law_282 : decode code 282 = .ok (.aload_n 0, 1) := by decide +kernel
theorem d_L_law_283 : decode code 283 = .ok (.iload_n 3, 1) := by decide +kernel
theorem d_L_law_284 : decode code 284 = .ok (.iconst 1, 1) := by decide +kernel
theorem d_L_law_285 : decode code 285 = .ok (.iadd, 1) := by decide +kernel
theorem d_L_law_286 : decode code 286 = .ok (.iaload, 1) := by decide +kernel
theorem d_L_law_287 : decode code 287 = .ok (.aload_n 0, 1) := by decide +kernel
theorem d_L_law_288 : decode code 288 = .ok (.iload_n 3, 1) := by decide +kernel
theorem d_L_law_289 : decode code 289 = .ok (.iconst 2, 1) := by decide +kernel
theorem d_L_law_290 : decode code 290 = .ok (.iadd, 1) := by decide +kernel
theorem d_L_law_291 : decode code 291 = .ok (.iaload, 1) := by decide +kernel
theorem d_L_law_292 : decode code 292 = .ok (.invokevirtual 39, 3) := by decide +kernel
theorem d_L_law_295 : decode code 295 = .ok (.if_icmp .eq 471, 3) := by decide +kernel
theorem d_L_law_298 : decode code 298 = .ok (.iconst 0, 1) := by decide +kernel
theorem d_L_law_299 : decode code 299 = .ok (.ireturn, 1) := by decide +kernel
theorem d_L_law_300 : decode code 300 = .ok (.aload_n 1, 1) := by decide +kernel
theorem d_L_law_301 : decode code 301 = .ok (.aload_n 0, 1) := by decide +kernel
theorem d_L_law_302 : decode code 302 = .ok (.iload_n 3, 1) := by decide +kernel
theorem d_L_law_303 : decode code 303 = .ok (.iconst 1, 1) := by decide +kernel
theorem d_L_law_304 : decode code 304 = .ok (.iadd, 1) := by decide +kernel
theorem d_L_law_305 : decode code 305 = .ok (.iaload, 1) := by decide +kernel
theorem d_L_law_306 : decode code 306 = .ok (.aload_n 0, 1) := by decide +kernel
theorem d_L_law_307 : decode code 307 = .ok (.iload_n 3, 1) := by decide +kernel
theorem d_L_law_308 : decode code 308 = .ok (.iconst 2, 1) := by decide +kernel
theorem d_L_law_309 : decode code 309 = .ok (.iadd, 1) := by decide +kernel
theorem d_L_law_310 : decode code 310 = .ok (.iaload, 1) := by decide +kernel
theorem d_L_law_311 : decode code 311 = .ok (.invokevirtual 40, 3) := by decide +kernel
theorem d_L_law_314 : decode code 314 = .ok (.aload_n 2, 1) := by decide +kernel
theorem d_L_law_315 : decode code 315 = .ok (.aload_n 0, 1) := by decide +kernel
theorem d_L_law_316 : decode code 316 = .ok (.iload_n 3, 1) := by decide +kernel
theorem d_L_law_317 : decode code 317 = .ok (.iconst 1, 1) := by decide +kernel
theorem d_L_law_318 : decode code 318 = .ok (.iadd, 1) := by decide +kernel
theorem d_L_law_319 : decode code 319 = .ok (.iaload, 1) := by decide +kernel
theorem d_L_law_320 : decode code 320 = .ok (.aload_n 0, 1) := by decide +kernel
theorem d_L_law_321 : decode code 321 = .ok (.iload_n 3, 1) := by decide +kernel
theorem d_L_law_322 : decode code 322 = .ok (.iconst 2, 1) := by decide +kernel
theorem d_L_law_323 : decode code 323 = .ok (.iadd, 1) := by decide +kernel
theorem d_L_law_324 : decode code 324 = .ok (.iaload, 1) := by decide +kernel
theorem d_L_law_325 : decode code 325 = .ok (.invokevirtual 43, 3) := by decide +kernel
theorem d_L_law_328 : decode code 328 = .ok (.if_icmp .eq 438, 3) := by decide +kernel
theorem d_L_law_331 : decode code 331 = .ok (.iconst 0, 1) := by decide +kernel
theorem d_L_law_332 : decode code 332 = .ok (.ireturn, 1) := by decide +kernel
theorem d_L_law_333 : decode code 333 = .ok (.aload_n 1, 1) := by decide +kernel
theorem d_L_law_334 : decode code 334 = .ok (.aload_n 0, 1) := by decide +kernel
theorem d_L_law_335 : decode code 335 = .ok (.iload_n 3, 1) := by decide +kernel
theorem d_L_law_336 : decode code 336 = .ok (.iconst 1, 1) := by decide +kernel
theorem d_L_law_337 : decode code 337 = .ok (.iadd, 1) := by decide +kernel
theorem d_L_law_338 : decode code 338 = .ok (.iaload, 1) := by decide +kernel
theorem d_L_law_339 : decode code 339 = .ok (.aload_n 0, 1) := by decide +kernel
theorem d_L_law_340 : decode code 340 = .ok (.iload_n 3, 1) := by decide +kernel
theorem d_L_law_341 : decode code 341 = .ok (.iconst 2, 1) := by decide +kernel
theorem d_L_law_342 : decode code 342 = .ok (.iadd, 1) := by decide +kernel
theorem d_L_law_343 : decode code 343 = .ok (.iaload, 1) := by decide +kernel
theorem d_L_law_344 : decode code 344 = .ok (.invokevirtual 44, 3) := by decide +kernel
theorem d_L_law_347 : decode code 347 = .ok (.aload_n 2, 1) := by decide +kernel
theorem d_L_law_348 : decode code 348 = .ok (.aload_n 0, 1) := by decide +kernel
theorem d_L_law_349 : decode code 349 = .ok (.iload_n 3, 1) := by decide +kernel
theorem d_L_law_350 : decode code 350 = .ok (.iconst 1, 1) := by decide +kernel
theorem d_L_law_351 : decode code 351 = .ok (.iadd, 1) := by decide +kernel
theorem d_L_law_352 : decode code 352 = .ok (.iaload, 1) := by decide +kernel
theorem d_L_law_353 : decode code 353 = .ok (.aload_n 0, 1) := by decide +kernel
theorem d_L_law_354 : decode code 354 = .ok (.iload_n 3, 1) := by decide +kernel
theorem d_L_law_355 : decode code 355 = .ok (.iconst 2, 1) := by decide +kernel
theorem d_L_law_356 : decode code 356 = .ok (.iadd, 1) := by decide +kernel
theorem d_L_law_357 : decode code 357 = .ok (.iaload, 1) := by decide +kernel
theorem d_L_law_358 : decode code 358 = .ok (.invokevirtual 47, 3) := by decide +kernel
theorem d_L_law_361 : decode code 361 = .ok (.if_icmp .eq 405, 3) := by decide +kernel
theorem d_L_law_364 : decode code 364 = .ok (.iconst 0, 1) := by decide +kernel
theorem d_L_law_365 : decode code 365 = .ok (.ireturn, 1) := by decide +kernel
theorem d_L_law_366 : decode code 366 = .ok (.aload_n 1, 1) := by decide +kernel
theorem d_L_law_367 : decode code 367 = .ok (.aload_n 0, 1) := by decide +kernel
theorem d_L_law_368 : decode code 368 = .ok (.iload_n 3, 1) := by decide +kernel
theorem d_L_law_369 : decode code 369 = .ok (.iconst 1, 1) := by decide +kernel
theorem d_L_law_370 : decode code 370 = .ok (.iadd, 1) := by decide +kernel
theorem d_L_law_371 : decode code 371 = .ok (.iaload, 1) := by decide +kernel
theorem d_L_law_372 : decode code 372 = .ok (.aload_n 0, 1) := by decide +kernel
theorem d_L_law_373 : decode code 373 = .ok (.iload_n 3, 1) := by decide +kernel
theorem d_L_law_374 : decode code 374 = .ok (.iconst 2, 1) := by decide +kernel
theorem d_L_law_375 : decode code 375 = .ok (.iadd, 1) := by decide +kernel
theorem d_L_law_376 : decode code 376 = .ok (.iaload, 1) := by decide +kernel
theorem d_L_law_377 : decode code 377 = .ok (.aload_n 0, 1) := by decide +kernel
theorem d_L_law_378 : decode code 378 = .ok (.iload_n 3, 1) := by decide +kernel
theorem d_L_law_379 : decode code 379 = .ok (.iconst 3, 1) := by decide +kernel
theorem d_L_law_380 : decode code 380 = .ok (.iadd, 1) := by decide +kernel
theorem d_L_law_381 : decode code 381 = .ok (.iaload, 1) := by decide +kernel
theorem d_L_law_382 : decode code 382 = .ok (.invokevirtual 48, 3) := by decide +kernel
theorem d_L_law_385 : decode code 385 = .ok (.aload_n 2, 1) := by decide +kernel
theorem d_L_law_386 : decode code 386 = .ok (.aload_n 0, 1) := by decide +kernel
theorem d_L_law_387 : decode code 387 = .ok (.iload_n 3, 1) := by decide +kernel
theorem d_L_law_388 : decode code 388 = .ok (.iconst 1, 1) := by decide +kernel
theorem d_L_law_389 : decode code 389 = .ok (.iadd, 1) := by decide +kernel
theorem d_L_law_390 : decode code 390 = .ok (.iaload, 1) := by decide +kernel
theorem d_L_law_391 : decode code 391 = .ok (.aload_n 0, 1) := by decide +kernel
theorem d_L_law_392 : decode code 392 = .ok (.iload_n 3, 1) := by decide +kernel
theorem d_L_law_393 : decode code 393 = .ok (.iconst 2, 1) := by decide +kernel
theorem d_L_law_394 : decode code 394 = .ok (.iadd, 1) := by decide +kernel
theorem d_L_law_395 : decode code 395 = .ok (.iaload, 1) := by decide +kernel
theorem d_L_law_396 : decode code 396 = .ok (.aload_n 0, 1) := by decide +kernel
theorem d_L_law_397 : decode code 397 = .ok (.iload_n 3, 1) := by decide +kernel
theorem d_L_law_398 : decode code 398 = .ok (.iconst 3, 1) := by decide +kernel
theorem d_L_law_399 : decode code 399 = .ok (.iadd, 1) := by decide +kernel
theorem d_L_law_400 : decode code 400 = .ok (.iaload, 1) := by decide +kernel
theorem d_L_law_401 : decode code 401 = .ok (.invokevirtual 51, 3) := by decide +kernel
theorem d_L_law_404 : decode code 404 = .ok (.if_icmp .eq 362, 3) := by decide +kernel
theorem d_L_law_407 : decode code 407 = .ok (.iconst 0, 1) := by decide +kernel
theorem d_L_law_408 : decode code 408 = .ok (.ireturn, 1) := by decide +kernel
theorem d_L_law_409 : decode code 409 = .ok (.aload_n 1, 1) := by decide +kernel
theorem d_L_law_410 : decode code 410 = .ok (.aload_n 0, 1) := by decide +kernel
theorem d_L_law_411 : decode code 411 = .ok (.iload_n 3, 1) := by decide +kernel
theorem d_L_law_412 : decode code 412 = .ok (.iconst 1, 1) := by decide +kernel
theorem d_L_law_413 : decode code 413 = .ok (.iadd, 1) := by decide +kernel
theorem d_L_law_414 : decode code 414 = .ok (.iaload, 1) := by decide +kernel
theorem d_L_law_415 : decode code 415 = .ok (.aload_n 0, 1) := by decide +kernel
theorem d_L_law_416 : decode code 416 = .ok (.iload_n 3, 1) := by decide +kernel
theorem d_L_law_417 : decode code 417 = .ok (.iconst 2, 1) := by decide +kernel
theorem d_L_law_418 : decode code 418 = .ok (.iadd, 1) := by decide +kernel
theorem d_L_law_419 : decode code 419 = .ok (.iaload, 1) := by decide +kernel
theorem d_L_law_420 : decode code 420 = .ok (.aload_n 0, 1) := by decide +kernel
theorem d_L_law_421 : decode code 421 = .ok (.iload_n 3, 1) := by decide +kernel
theorem d_L_law_422 : decode code 422 = .ok (.iconst 3, 1) := by decide +kernel
theorem d_L_law_423 : decode code 423 = .ok (.iadd, 1) := by decide +kernel
theorem d_L_law_424 : decode code 424 = .ok (.iaload, 1) := by decide +kernel
theorem d_L_law_425 : decode code 425 = .ok (.invokevirtual 52, 3) := by decide +kernel
theorem d_L_law_428 : decode code 428 = .ok (.aload_n 2, 1) := by decide +kernel
theorem d_L_law_429 : decode code 429 = .ok (.aload_n 0, 1) := by decide +kernel
theorem d_L_law_430 : decode code 430 = .ok (.iload_n 3, 1) := by decide +kernel
theorem d_L_law_431 : decode code 431 = .ok (.iconst 1, 1) := by decide +kernel
theorem d_L_law_432 : decode code 432 = .ok (.iadd, 1) := by decide +kernel
theorem d_L_law_433 : decode code 433 = .ok (.iaload, 1) := by decide +kernel
theorem d_L_law_434 : decode code 434 = .ok (.aload_n 0, 1) := by decide +kernel
theorem d_L_law_435 : decode code 435 = .ok (.iload_n 3, 1) := by decide +kernel
theorem d_L_law_436 : decode code 436 = .ok (.iconst 2, 1) := by decide +kernel
theorem d_L_law_437 : decode code 437 = .ok (.iadd, 1) := by decide +kernel
theorem d_L_law_438 : decode code 438 = .ok (.iaload, 1) := by decide +kernel
theorem d_L_law_439 : decode code 439 = .ok (.aload_n 0, 1) := by decide +kernel
theorem d_L_law_440 : decode code 440 = .ok (.iload_n 3, 1) := by decide +kernel
theorem d_L_law_441 : decode code 441 = .ok (.iconst 3, 1) := by decide +kernel
theorem d_L_law_442 : decode code 442 = .ok (.iadd, 1) := by decide +kernel
theorem d_L_law_443 : decode code 443 = .ok (.iaload, 1) := by decide +kernel
theorem d_L_law_444 : decode code 444 = .ok (.invokevirtual 55, 3) := by decide +kernel
theorem d_L_law_447 : decode code 447 = .ok (.if_icmp .eq 319, 3) := by decide +kernel
theorem d_L_law_450 : decode code 450 = .ok (.iconst 0, 1) := by decide +kernel
theorem d_L_law_451 : decode code 451 = .ok (.ireturn, 1) := by decide +kernel
theorem d_L_law_452 : decode code 452 = .ok (.aload_n 1, 1) := by decide +kernel
theorem d_L_law_453 : decode code 453 = .ok (.aload_n 0, 1) := by decide +kernel
theorem d_L_law_454 : decode code 454 = .ok (.iload_n 3, 1) := by decide +kernel
theorem d_L_law_455 : decode code 455 = .ok (.iconst 1, 1) := by decide +kernel
theorem d_L_law_456 : decode code 456 = .ok (.iadd, 1) := by decide +kernel
theorem d_L_law_457 : decode code 457 = .ok (.iaload, 1) := by decide +kernel
theorem d_L_law_458 : decode code 458 = .ok (.aload_n 0, 1) := by decide +kernel
theorem d_L_law_459 : decode code 459 = .ok (.iload_n 3, 1) := by decide +kernel
theorem d_L_law_460 : decode code 460 = .ok (.iconst 2, 1) := by decide +kernel
theorem d_L_law_461 : decode code 461 = .ok (.iadd, 1) := by decide +kernel
theorem d_L_law_462 : decode code 462 = .ok (.iaload, 1) := by decide +kernel
theorem d_L_law_463 : decode code 463 = .ok (.invokevirtual 56, 3) := by decide +kernel
theorem d_L_law_466 : decode code 466 = .ok (.aload_n 2, 1) := by decide +kernel
theorem d_L_law_467 : decode code 467 = .ok (.aload_n 0, 1) := by decide +kernel
theorem d_L_law_468 : decode code 468 = .ok (.iload_n 3, 1) := by decide +kernel
theorem d_L_law_469 : decode code 469 = .ok (.iconst 1, 1) := by decide +kernel
theorem d_L_law_470 : decode code 470 = .ok (.iadd, 1) := by decide +kernel
theorem d_L_law_471 : decode code 471 = .ok (.iaload, 1) := by decide +kernel
theorem d_L_law_472 : decode code 472 = .ok (.aload_n 0, 1) := by decide +kernel
theorem d_L_law_473 : decode code 473 = .ok (.iload_n 3, 1) := by decide +kernel
theorem d_L_law_474 : decode code 474 = .ok (.iconst 2, 1) := by decide +kernel
theorem d_L_law_475 : decode code 475 = .ok (.iadd, 1) := by decide +kernel
theorem d_L_law_476 : decode code 476 = .ok (.iaload, 1) := by decide +kernel
theorem d_L_law_477 : decode code 477 = .ok (.invokevirtual 60, 3) := by decide +kernel
theorem d_L_law_480 : decode code 480 = .ok (.lcmp, 1) := by decide +kernel
theorem d_L_law_481 : decode code 481 = .ok (.ifCond .eq 285, 3) := by decide +kernel
theorem d_L_law_484 : decode code 484 = .ok (.iconst 0, 1) := by decide +kernel
theorem d_L_law_485 : decode code 485 = .ok (.ireturn, 1) := by decide +kernel
theorem d_L_law_486 : decode code 486 = .ok (.aload_n 1, 1) := by decide +kernel
theorem d_L_law_487 : decode code 487 = .ok (.aload_n 0, 1) := by decide +kernel
theorem d_L_law_488 : decode code 488 = .ok (.iload_n 3, 1) := by decide +kernel
theorem d_L_law_489 : decode code 489 = .ok (.iconst 1, 1) := by decide +kernel
theorem d_L_law_490 : decode code 490 = .ok (.iadd, 1) := by decide +kernel
theorem d_L_law_491 : decode code 491 = .ok (.iaload, 1) := by decide +kernel
theorem d_L_law_492 : decode code 492 = .ok (.aload_n 0, 1) := by decide +kernel
theorem d_L_law_493 : decode code 493 = .ok (.iload_n 3, 1) := by decide +kernel
theorem d_L_law_494 : decode code 494 = .ok (.iconst 2, 1) := by decide +kernel
theorem d_L_law_495 : decode code 495 = .ok (.iadd, 1) := by decide +kernel
theorem d_L_law_496 : decode code 496 = .ok (.iaload, 1) := by decide +kernel
theorem d_L_law_497 : decode code 497 = .ok (.aload_n 0, 1) := by decide +kernel
theorem d_L_law_498 : decode code 498 = .ok (.iload_n 3, 1) := by decide +kernel
theorem d_L_law_499 : decode code 499 = .ok (.iconst 3, 1) := by decide +kernel
theorem d_L_law_500 : decode code 500 = .ok (.iadd, 1) := by decide +kernel
theorem d_L_law_501 : decode code 501 = .ok (.iaload, 1) := by decide +kernel
theorem d_L_law_502 : decode code 502 = .ok (.invokevirtual 61, 3) := by decide +kernel
theorem d_L_law_505 : decode code 505 = .ok (.aload_n 2, 1) := by decide +kernel
theorem d_L_law_506 : decode code 506 = .ok (.aload_n 0, 1) := by decide +kernel
theorem d_L_law_507 : decode code 507 = .ok (.iload_n 3, 1) := by decide +kernel
theorem d_L_law_508 : decode code 508 = .ok (.iconst 1, 1) := by decide +kernel
theorem d_L_law_509 : decode code 509 = .ok (.iadd, 1) := by decide +kernel
theorem d_L_law_510 : decode code 510 = .ok (.iaload, 1) := by decide +kernel
theorem d_L_law_511 : decode code 511 = .ok (.aload_n 0, 1) := by decide +kernel
theorem d_L_law_512 : decode code 512 = .ok (.iload_n 3, 1) := by decide +kernel
theorem d_L_law_513 : decode code 513 = .ok (.iconst 2, 1) := by decide +kernel
theorem d_L_law_514 : decode code 514 = .ok (.iadd, 1) := by decide +kernel
theorem d_L_law_515 : decode code 515 = .ok (.iaload, 1) := by decide +kernel
theorem d_L_law_516 : decode code 516 = .ok (.aload_n 0, 1) := by decide +kernel
theorem d_L_law_517 : decode code 517 = .ok (.iload_n 3, 1) := by decide +kernel
theorem d_L_law_518 : decode code 518 = .ok (.iconst 3, 1) := by decide +kernel
theorem d_L_law_519 : decode code 519 = .ok (.iadd, 1) := by decide +kernel
theorem d_L_law_520 : decode code 520 = .ok (.iaload, 1) := by decide +kernel
theorem d_L_law_521 : decode code 521 = .ok (.invokevirtual 64, 3) := by decide +kernel
theorem d_L_law_524 : decode code 524 = .ok (.if_icmp .eq 242, 3) := by decide +kernel
theorem d_L_law_527 : decode code 527 = .ok (.iconst 0, 1) := by decide +kernel
theorem d_L_law_528 : decode code 528 = .ok (.ireturn, 1) := by decide +kernel
theorem d_L_law_529 : decode code 529 = .ok (.aload_n 1, 1) := by decide +kernel
theorem d_L_law_530 : decode code 530 = .ok (.aload_n 0, 1) := by decide +kernel
theorem d_L_law_531 : decode code 531 = .ok (.iload_n 3, 1) := by decide +kernel
theorem d_L_law_532 : decode code 532 = .ok (.iconst 1, 1) := by decide +kernel
theorem d_L_law_533 : decode code 533 = .ok (.iadd, 1) := by decide +kernel
theorem d_L_law_534 : decode code 534 = .ok (.iaload, 1) := by decide +kernel
theorem d_L_law_535 : decode code 535 = .ok (.aload_n 0, 1) := by decide +kernel
theorem d_L_law_536 : decode code 536 = .ok (.iload_n 3, 1) := by decide +kernel
theorem d_L_law_537 : decode code 537 = .ok (.iconst 2, 1) := by decide +kernel
theorem d_L_law_538 : decode code 538 = .ok (.iadd, 1) := by decide +kernel
theorem d_L_law_539 : decode code 539 = .ok (.iaload, 1) := by decide +kernel
theorem d_L_law_540 : decode code 540 = .ok (.aload_n 0, 1) := by decide +kernel
theorem d_L_law_541 : decode code 541 = .ok (.iload_n 3, 1) := by decide +kernel
theorem d_L_law_542 : decode code 542 = .ok (.iconst 3, 1) := by decide +kernel
theorem d_L_law_543 : decode code 543 = .ok (.iadd, 1) := by decide +kernel
theorem d_L_law_544 : decode code 544 = .ok (.iaload, 1) := by decide +kernel
theorem d_L_law_545 : decode code 545 = .ok (.invokevirtual 65, 3) := by decide +kernel
theorem d_L_law_548 : decode code 548 = .ok (.aload_n 2, 1) := by decide +kernel
theorem d_L_law_549 : decode code 549 = .ok (.aload_n 0, 1) := by decide +kernel
theorem d_L_law_550 : decode code 550 = .ok (.iload_n 3, 1) := by decide +kernel
theorem d_L_law_551 : decode code 551 = .ok (.iconst 1, 1) := by decide +kernel
theorem d_L_law_552 : decode code 552 = .ok (.iadd, 1) := by decide +kernel
theorem d_L_law_553 : decode code 553 = .ok (.iaload, 1) := by decide +kernel
theorem d_L_law_554 : decode code 554 = .ok (.aload_n 0, 1) := by decide +kernel
theorem d_L_law_555 : decode code 555 = .ok (.iload_n 3, 1) := by decide +kernel
theorem d_L_law_556 : decode code 556 = .ok (.iconst 2, 1) := by decide +kernel
theorem d_L_law_557 : decode code 557 = .ok (.iadd, 1) := by decide +kernel
theorem d_L_law_558 : decode code 558 = .ok (.iaload, 1) := by decide +kernel
theorem d_L_law_559 : decode code 559 = .ok (.aload_n 0, 1) := by decide +kernel
theorem d_L_law_560 : decode code 560 = .ok (.iload_n 3, 1) := by decide +kernel
theorem d_L_law_561 : decode code 561 = .ok (.iconst 3, 1) := by decide +kernel
theorem d_L_law_562 : decode code 562 = .ok (.iadd, 1) := by decide +kernel
theorem d_L_law_563 : decode code 563 = .ok (.iaload, 1) := by decide +kernel
theorem d_L_law_564 : decode code 564 = .ok (.invokevirtual 68, 3) := by decide +kernel
theorem d_L_law_567 : decode code 567 = .ok (.if_icmp .eq 199, 3) := by decide +kernel
theorem d_L_law_570 : decode code 570 = .ok (.iconst 0, 1) := by decide +kernel
theorem d_L_law_571 : decode code 571 = .ok (.ireturn, 1) := by decide +kernel
theorem d_L_law_572 : decode code 572 = .ok (.aload_n 1, 1) := by decide +kernel
theorem d_L_law_573 : decode code 573 = .ok (.aload_n 0, 1) := by decide +kernel
theorem d_L_law_574 : decode code 574 = .ok (.iload_n 3, 1) := by decide +kernel
theorem d_L_law_575 : decode code 575 = .ok (.iconst 1, 1) := by decide +kernel
theorem d_L_law_576 : decode code 576 = .ok (.iadd, 1) := by decide +kernel
theorem d_L_law_577 : decode code 577 = .ok (.iaload, 1) := by decide +kernel
theorem d_L_law_578 : decode code 578 = .ok (.invokevirtual 69, 3) := by decide +kernel
theorem d_L_law_581 : decode code 581 = .ok (.aload_n 2, 1) := by decide +kernel
theorem d_L_law_582 : decode code 582 = .ok (.aload_n 0, 1) := by decide +kernel
theorem d_L_law_583 : decode code 583 = .ok (.iload_n 3, 1) := by decide +kernel
theorem d_L_law_584 : decode code 584 = .ok (.iconst 1, 1) := by decide +kernel
theorem d_L_law_585 : decode code 585 = .ok (.iadd, 1) := by decide +kernel
theorem d_L_law_586 : decode code 586 = .ok (.iaload, 1) := by decide +kernel
theorem d_L_law_587 : decode code 587 = .ok (.invokevirtual 73, 3) := by decide +kernel
theorem d_L_law_590 : decode code 590 = .ok (.if_icmp .eq 176, 3) := by decide +kernel
theorem d_L_law_593 : decode code 593 = .ok (.iconst 0, 1) := by decide +kernel
theorem d_L_law_594 : decode code 594 = .ok (.ireturn, 1) := by decide +kernel
theorem d_L_law_595 : decode code 595 = .ok (.aload_n 1, 1) := by decide +kernel
theorem d_L_law_596 : decode code 596 = .ok (.aload_n 0, 1) := by decide +kernel
theorem d_L_law_597 : decode code 597 = .ok (.iload_n 3, 1) := by decide +kernel
theorem d_L_law_598 : decode code 598 = .ok (.iconst 1, 1) := by decide +kernel
theorem d_L_law_599 : decode code 599 = .ok (.iadd, 1) := by decide +kernel
theorem d_L_law_600 : decode code 600 = .ok (.iaload, 1) := by decide +kernel
theorem d_L_law_601 : decode code 601 = .ok (.aload_n 0, 1) := by decide +kernel
theorem d_L_law_602 : decode code 602 = .ok (.iload_n 3, 1) := by decide +kernel
theorem d_L_law_603 : decode code 603 = .ok (.iconst 2, 1) := by decide +kernel
theorem d_L_law_604 : decode code 604 = .ok (.iadd, 1) := by decide +kernel
theorem d_L_law_605 : decode code 605 = .ok (.iaload, 1) := by decide +kernel
theorem d_L_law_606 : decode code 606 = .ok (.invokevirtual 74, 3) := by decide +kernel
theorem d_L_law_609 : decode code 609 = .ok (.aload_n 2, 1) := by decide +kernel
theorem d_L_law_610 : decode code 610 = .ok (.aload_n 0, 1) := by decide +kernel
theorem d_L_law_611 : decode code 611 = .ok (.iload_n 3, 1) := by decide +kernel
theorem d_L_law_612 : decode code 612 = .ok (.iconst 1, 1) := by decide +kernel
theorem d_L_law_613 : decode code 613 = .ok (.iadd, 1) := by decide +kernel
theorem d_L_law_614 : decode code 614 = .ok (.iaload, 1) := by decide +kernel
theorem d_L_law_615 : decode code 615 = .ok (.aload_n 0, 1) := by decide +kernel
theorem d_L_law_616 : decode code 616 = .ok (.iload_n 3, 1) := by decide +kernel
theorem d_L_law_617 : decode code 617 = .ok (.iconst 2, 1) := by decide +kernel
theorem d_L_law_618 : decode code 618 = .ok (.iadd, 1) := by decide +kernel
theorem d_L_law_619 : decode code 619 = .ok (.iaload, 1) := by decide +kernel
theorem d_L_law_620 : decode code 620 = .ok (.invokevirtual 77, 3) := by decide +kernel
theorem d_L_law_623 : decode code 623 = .ok (.if_icmp .eq 143, 3) := by decide +kernel
theorem d_L_law_626 : decode code 626 = .ok (.iconst 0, 1) := by decide +kernel
theorem d_L_law_627 : decode code 627 = .ok (.ireturn, 1) := by decide +kernel
theorem d_L_law_628 : decode code 628 = .ok (.aload_n 1, 1) := by decide +kernel
theorem d_L_law_629 : decode code 629 = .ok (.aload_n 0, 1) := by decide +kernel
theorem d_L_law_630 : decode code 630 = .ok (.iload_n 3, 1) := by decide +kernel
theorem d_L_law_631 : decode code 631 = .ok (.iconst 1, 1) := by decide +kernel
theorem d_L_law_632 : decode code 632 = .ok (.iadd, 1) := by decide +kernel
theorem d_L_law_633 : decode code 633 = .ok (.iaload, 1) := by decide +kernel
theorem d_L_law_634 : decode code 634 = .ok (.aload_n 0, 1) := by decide +kernel
theorem d_L_law_635 : decode code 635 = .ok (.iload_n 3, 1) := by decide +kernel
theorem d_L_law_636 : decode code 636 = .ok (.iconst 2, 1) := by decide +kernel
theorem d_L_law_637 : decode code 637 = .ok (.iadd, 1) := by decide +kernel
theorem d_L_law_638 : decode code 638 = .ok (.iaload, 1) := by decide +kernel
theorem d_L_law_639 : decode code 639 = .ok (.aload_n 0, 1) := by decide +kernel
theorem d_L_law_640 : decode code 640 = .ok (.iload_n 3, 1) := by decide +kernel
theorem d_L_law_641 : decode code 641 = .ok (.iconst 3, 1) := by decide +kernel
theorem d_L_law_642 : decode code 642 = .ok (.iadd, 1) := by decide +kernel
theorem d_L_law_643 : decode code 643 = .ok (.iaload, 1) := by decide +kernel
theorem d_L_law_644 : decode code 644 = .ok (.invokevirtual 78, 3) := by decide +kernel
theorem d_L_law_647 : decode code 647 = .ok (.aload_n 2, 1) := by decide +kernel
theorem d_L_law_648 : decode code 648 = .ok (.aload_n 0, 1) := by decide +kernel
theorem d_L_law_649 : decode code 649 = .ok (.iload_n 3, 1) := by decide +kernel
theorem d_L_law_650 : decode code 650 = .ok (.iconst 1, 1) := by decide +kernel
theorem d_L_law_651 : decode code 651 = .ok (.iadd, 1) := by decide +kernel
theorem d_L_law_652 : decode code 652 = .ok (.iaload, 1) := by decide +kernel
theorem d_L_law_653 : decode code 653 = .ok (.aload_n 0, 1) := by decide +kernel
theorem d_L_law_654 : decode code 654 = .ok (.iload_n 3, 1) := by decide +kernel
theorem d_L_law_655 : decode code 655 = .ok (.iconst 2, 1) := by decide +kernel
theorem d_L_law_656 : decode code 656 = .ok (.iadd, 1) := by decide +kernel
theorem d_L_law_657 : decode code 657 = .ok (.iaload, 1) := by decide +kernel
theorem d_L_law_658 : decode code 658 = .ok (.aload_n 0, 1) := by decide +kernel
theorem d_L_law_659 : decode code 659 = .ok (.iload_n 3, 1) := by decide +kernel
theorem d_L_law_660 : decode code 660 = .ok (.iconst 3, 1) := by decide +kernel
theorem d_L_law_661 : decode code 661 = .ok (.iadd, 1) := by decide +kernel
theorem d_L_law_662 : decode code 662 = .ok (.iaload, 1) := by decide +kernel
theorem d_L_law_663 : decode code 663 = .ok (.invokevirtual 81, 3) := by decide +kernel
theorem d_L_law_666 : decode code 666 = .ok (.if_icmp .eq 100, 3) := by decide +kernel
theorem d_L_law_669 : decode code 669 = .ok (.iconst 0, 1) := by decide +kernel
theorem d_L_law_670 : decode code 670 = .ok (.ireturn, 1) := by decide +kernel
theorem d_L_law_671 : decode code 671 = .ok (.aload_n 1, 1) := by decide +kernel
theorem d_L_law_672 : decode code 672 = .ok (.invokevirtual 82, 3) := by decide +kernel
theorem d_L_law_675 : decode code 675 = .ok (.aload_n 2, 1) := by decide +kernel
theorem d_L_law_676 : decode code 676 = .ok (.invokevirtual 85, 3) := by decide +kernel
theorem d_L_law_679 : decode code 679 = .ok (.if_icmp .eq 87, 3) := by decide +kernel
theorem d_L_law_682 : decode code 682 = .ok (.iconst 0, 1) := by decide +kernel
theorem d_L_law_683 : decode code 683 = .ok (.ireturn, 1) := by decide +kernel
theorem d_L_law_684 : decode code 684 = .ok (.aload_n 1, 1) := by decide +kernel
theorem d_L_law_685 : decode code 685 = .ok (.invokevirtual 86, 3) := by decide +kernel
theorem d_L_law_688 : decode code 688 = .ok (.aload_n 2, 1) := by decide +kernel
theorem d_L_law_689 : decode code 689 = .ok (.invokevirtual 89, 3) := by decide +kernel
theorem d_L_law_692 : decode code 692 = .ok (.if_icmp .eq 74, 3) := by decide +kernel
theorem d_L_law_695 : decode code 695 = .ok (.iconst 0, 1) := by decide +kernel
theorem d_L_law_696 : decode code 696 = .ok (.ireturn, 1) := by decide +kernel
theorem d_L_law_697 : decode code 697 = .ok (.aload_n 1, 1) := by decide +kernel
theorem d_L_law_698 : decode code 698 = .ok (.aload_n 0, 1) := by decide +kernel
theorem d_L_law_699 : decode code 699 = .ok (.iload_n 3, 1) := by decide +kernel
theorem d_L_law_700 : decode code 700 = .ok (.iconst 1, 1) := by decide +kernel
theorem d_L_law_701 : decode code 701 = .ok (.iadd, 1) := by decide +kernel
theorem d_L_law_702 : decode code 702 = .ok (.iaload, 1) := by decide +kernel
theorem d_L_law_703 : decode code 703 = .ok (.aload_n 0, 1) := by decide +kernel
theorem d_L_law_704 : decode code 704 = .ok (.iload_n 3, 1) := by decide +kernel
theorem d_L_law_705 : decode code 705 = .ok (.iconst 2, 1) := by decide +kernel
theorem d_L_law_706 : decode code 706 = .ok (.iadd, 1) := by decide +kernel
theorem d_L_law_707 : decode code 707 = .ok (.iaload, 1) := by decide +kernel
theorem d_L_law_708 : decode code 708 = .ok (.invokevirtual 90, 3) := by decide +kernel
theorem d_L_law_711 : decode code 711 = .ok (.aload_n 2, 1) := by decide +kernel
theorem d_L_law_712 : decode code 712 = .ok (.aload_n 0, 1) := by decide +kernel
theorem d_L_law_713 : decode code 713 = .ok (.iload_n 3, 1) := by decide +kernel
theorem d_L_law_714 : decode code 714 = .ok (.iconst 1, 1) := by decide +kernel
theorem d_L_law_715 : decode code 715 = .ok (.iadd, 1) := by decide +kernel
theorem d_L_law_716 : decode code 716 = .ok (.iaload, 1) := by decide +kernel
theorem d_L_law_717 : decode code 717 = .ok (.aload_n 0, 1) := by decide +kernel
theorem d_L_law_718 : decode code 718 = .ok (.iload_n 3, 1) := by decide +kernel
theorem d_L_law_719 : decode code 719 = .ok (.iconst 2, 1) := by decide +kernel
theorem d_L_law_720 : decode code 720 = .ok (.iadd, 1) := by decide +kernel
theorem d_L_law_721 : decode code 721 = .ok (.iaload, 1) := by decide +kernel
theorem d_L_law_722 : decode code 722 = .ok (.invokevirtual 93, 3) := by decide +kernel
theorem d_L_law_725 : decode code 725 = .ok (.if_icmp .eq 41, 3) := by decide +kernel
theorem d_L_law_728 : decode code 728 = .ok (.iconst 0, 1) := by decide +kernel
theorem d_L_law_729 : decode code 729 = .ok (.ireturn, 1) := by decide +kernel
theorem d_L_law_730 : decode code 730 = .ok (.aload_n 1, 1) := by decide +kernel
theorem d_L_law_731 : decode code 731 = .ok (.invokevirtual 94, 3) := by decide +kernel
theorem d_L_law_734 : decode code 734 = .ok (.aload_n 2, 1) := by decide +kernel
theorem d_L_law_735 : decode code 735 = .ok (.invokevirtual 97, 3) := by decide +kernel
theorem d_L_law_738 : decode code 738 = .ok (.if_icmp .eq 28, 3) := by decide +kernel
theorem d_L_law_741 : decode code 741 = .ok (.iconst 0, 1) := by decide +kernel
theorem d_L_law_742 : decode code 742 = .ok (.ireturn, 1) := by decide +kernel
theorem d_L_law_743 : decode code 743 = .ok (.aload_n 1, 1) := by decide +kernel
theorem d_L_law_744 : decode code 744 = .ok (.aload_n 0, 1) := by decide +kernel
theorem d_L_law_745 : decode code 745 = .ok (.iload_n 3, 1) := by decide +kernel
theorem d_L_law_746 : decode code 746 = .ok (.iconst 1, 1) := by decide +kernel
theorem d_L_law_747 : decode code 747 = .ok (.iadd, 1) := by decide +kernel
theorem d_L_law_748 : decode code 748 = .ok (.iaload, 1) := by decide +kernel
theorem d_L_law_749 : decode code 749 = .ok (.invokevirtual 98, 3) := by decide +kernel
theorem d_L_law_752 : decode code 752 = .ok (.aload_n 2, 1) := by decide +kernel
theorem d_L_law_753 : decode code 753 = .ok (.aload_n 0, 1) := by decide +kernel
theorem d_L_law_754 : decode code 754 = .ok (.iload_n 3, 1) := by decide +kernel
theorem d_L_law_755 : decode code 755 = .ok (.iconst 1, 1) := by decide +kernel
theorem d_L_law_756 : decode code 756 = .ok (.iadd, 1) := by decide +kernel
theorem d_L_law_757 : decode code 757 = .ok (.iaload, 1) := by decide +kernel
theorem d_L_law_758 : decode code 758 = .ok (.invokevirtual 101, 3) := by decide +kernel
theorem d_L_law_761 : decode code 761 = .ok (.if_icmp .eq 5, 3) := by decide +kernel
theorem d_L_law_764 : decode code 764 = .ok (.iconst 0, 1) := by decide +kernel
theorem d_L_law_765 : decode code 765 = .ok (.ireturn, 1) := by decide +kernel
theorem d_L_law_766 : decode code 766 = .ok (.iinc 3 4, 3) := by decide +kernel
theorem d_L_law_769 : decode code 769 = .ok (.goto (-751), 3) := by decide +kernel
theorem d_L_law_772 : decode code 772 = .ok (.iconst 1, 1) := by decide +kernel
theorem d_L_law_773 : decode code 773 = .ok (.ireturn, 1) := by decide +kernel
end
section
/-! WORDS of the tables, by their places -/
theorem ini_L : Jvm.Cond.initialized "IndependenceRowsLaw" ∈ lw_tbl := am_tb1 0 (by rfl)
theorem ini_X : Jvm.Cond.initialized "IndependenceRows" ∈ lw_tbl := am_tb1 1 (by rfl)
theorem ini_G : Jvm.Cond.initialized "IndependenceRows$Graph" ∈ lw_tbl := am_tb1 2 (by rfl)
theorem ini_T : Jvm.Cond.initialized "IndependenceRows$Tables" ∈ lw_tbl := am_tb1 3 (by rfl)
theorem ini_V : Jvm.Cond.initialized "IndependenceRows$Walks" ∈ lw_tbl := am_tb1 4 (by rfl)
theorem ini_K : Jvm.Cond.initialized "IndependenceRows$Kin" ∈ lw_tbl := am_tb1 5 (by rfl)
theorem ini_N : Jvm.Cond.initialized "IndependenceRows$Margin" ∈ lw_tbl := am_tb1 6 (by rfl)
theorem ini_Y : Jvm.Cond.initialized "IndependenceRowsModel" ∈ lw_tbl := am_tb1 7 (by rfl)
theorem ini_A : Jvm.Cond.initialized "java/util/Arrays" ∈ lw_tbl := am_tb1 8 (by rfl)
theorem ini_I : Jvm.Cond.initialized "java/lang/Integer" ∈ lw_tbl := am_tb1 9 (by rfl)
theorem ini_S : Jvm.Cond.initialized "java/lang/System" ∈ lw_tbl := am_tb1 10 (by rfl)
theorem ck_L_7 : Jvm.Cond.classLink "IndependenceRowsLaw" (7 : Nat) "IndependenceRows" ∈ lw_tbl := am_tb1 11 (by rfl)
theorem ins_X : Jvm.Cond.instantiable "IndependenceRows" (10 : Nat) ∈ lw_tbl := am_tb1 12 (by rfl)
theorem lk_L_9 : Jvm.Cond.methodLink "IndependenceRowsLaw" (9 : Nat) ({ cls := "IndependenceRows", name := "<init>", desc := "()V" } : Jvm.MethodName) ∈ lw_tbl := am_tb1 13 (by rfl)
theorem im_X_init : Jvm.Cond.instanceMethod ({ cls := "IndependenceRows", name := "<init>", desc := "()V" } : Jvm.MethodName) ∈ lw_tbl := am_tb1 14 (by rfl)
theorem co_X_init : Jvm.Cond.code ({ cls := "IndependenceRows", name := "<init>", desc := "()V" } : Jvm.MethodName) prog_1_method_1_code (1 : Nat) (Option.none : Option Jvm.ClassFile.FieldType) ∈ lw_tbl := am_tb1 15 (by rfl)
theorem lk_X_3 : Jvm.Cond.methodLink "IndependenceRows" (3 : Nat) ({ cls := "java/lang/Object", name := "<init>", desc := "()V" } : Jvm.MethodName) ∈ lw_tbl := am_tb1 16 (by rfl)
theorem im_O_init : Jvm.Cond.instanceMethod ({ cls := "java/lang/Object", name := "<init>", desc := "()V" } : Jvm.MethodName) ∈ lw_tbl := am_tb1 17 (by rfl)
theorem co_O_init : Jvm.Cond.code ({ cls := "java/lang/Object", name := "<init>", desc := "()V" } : Jvm.MethodName) object_method_1_code (1 : Nat) (Option.none : Option Jvm.ClassFile.FieldType) ∈ lw_tbl := am_tb1 18 (by rfl)
theorem ck_X_9 : Jvm.Cond.classLink "IndependenceRows" (9 : Nat) "IndependenceRows$Graph" ∈ lw_tbl := am_tb1 19 (by rfl)
theorem ins_G : Jvm.Cond.instantiable "IndependenceRows$Graph" (4 : Nat) ∈ lw_tbl := am_tb1 20 (by rfl)
theorem lk_X_11 : Jvm.Cond.methodLinkNest "IndependenceRows" (11 : Nat) ({ cls := "IndependenceRows$Graph", name := "<init>", desc := "()V" } : Jvm.MethodName) "IndependenceRows" ∈ lw_tbl := am_tb1 21 (by rfl)
theorem im_G_init : Jvm.Cond.instanceMethod ({ cls := "IndependenceRows$Graph", name := "<init>", desc := "()V" } : Jvm.MethodName) ∈ lw_tbl := am_tb1 22 (by rfl)
theorem co_G_init : Jvm.Cond.code ({ cls := "IndependenceRows$Graph", name := "<init>", desc := "()V" } : Jvm.MethodName) prog_2_method_1_code (1 : Nat) (Option.none : Option Jvm.ClassFile.FieldType) ∈ lw_tbl := am_tb1 23 (by rfl)
theorem lk_G_3 : Jvm.Cond.methodLink "IndependenceRows$Graph" (3 : Nat) ({ cls := "java/lang/Object", name := "<init>", desc := "()V" } : Jvm.MethodName) ∈ lw_tbl := am_tb1 24 (by rfl)
theorem fk_G_9 : Jvm.Cond.fieldLink "IndependenceRows$Graph" (9 : Nat) "IndependenceRows$Graph" "places" "I" ∈ lw_tbl := am_tb1 25 (by rfl)
theorem fk_X_60 : Jvm.Cond.fieldLinkNest "IndependenceRows" (60 : Nat) "IndependenceRows$Graph" "places" "I" "IndependenceRows" ∈ lw_tbl := am_tb1 26 (by rfl)
theorem fk_K_55 : Jvm.Cond.fieldLinkNest "IndependenceRows$Kin" (55 : Nat) "IndependenceRows$Graph" "places" "I" "IndependenceRows" ∈ lw_tbl := am_tb1 27 (by rfl)
theorem fk_T_37 : Jvm.Cond.fieldLinkNest "IndependenceRows$Tables" (37 : Nat) "IndependenceRows$Graph" "places" "I" "IndependenceRows" ∈ lw_tbl := am_tb1 28 (by rfl)
theorem fk_G_15 : Jvm.Cond.fieldLink "IndependenceRows$Graph" (15 : Nat) "IndependenceRows$Graph" "arcs" "I" ∈ lw_tbl := am_tb1 29 (by rfl)
theorem fk_X_96 : Jvm.Cond.fieldLinkNest "IndependenceRows" (96 : Nat) "IndependenceRows$Graph" "arcs" "I" "IndependenceRows" ∈ lw_tbl := am_tb1 30 (by rfl)
theorem fk_G_18 : Jvm.Cond.fieldLink "IndependenceRows$Graph" (18 : Nat) "IndependenceRows$Graph" "parents" "[I" ∈ lw_tbl := am_tb1 31 (by rfl)
theorem fk_V_41 : Jvm.Cond.fieldLinkNest "IndependenceRows$Walks" (41 : Nat) "IndependenceRows$Graph" "parents" "[I" "IndependenceRows" ∈ lw_tbl := am_tb1 32 (by rfl)
theorem fk_T_48 : Jvm.Cond.fieldLinkNest "IndependenceRows$Tables" (48 : Nat) "IndependenceRows$Graph" "parents" "[I" "IndependenceRows" ∈ lw_tbl := am_tb1 33 (by rfl)
theorem fk_X_123 : Jvm.Cond.fieldLinkNest "IndependenceRows" (123 : Nat) "IndependenceRows$Graph" "parents" "[I" "IndependenceRows" ∈ lw_tbl := am_tb1 34 (by rfl)
theorem fk_G_22 : Jvm.Cond.fieldLink "IndependenceRows$Graph" (22 : Nat) "IndependenceRows$Graph" "children" "[I" ∈ lw_tbl := am_tb1 35 (by rfl)
theorem fk_V_46 : Jvm.Cond.fieldLinkNest "IndependenceRows$Walks" (46 : Nat) "IndependenceRows$Graph" "children" "[I" "IndependenceRows" ∈ lw_tbl := am_tb1 36 (by rfl)
theorem fk_K_58 : Jvm.Cond.fieldLinkNest "IndependenceRows$Kin" (58 : Nat) "IndependenceRows$Graph" "children" "[I" "IndependenceRows" ∈ lw_tbl := am_tb1 37 (by rfl)
theorem fk_X_85 : Jvm.Cond.fieldLinkNest "IndependenceRows" (85 : Nat) "IndependenceRows$Graph" "children" "[I" "IndependenceRows" ∈ lw_tbl := am_tb1 38 (by rfl)
theorem arr_int : Jvm.Cond.arrayClass Jvm.ClassFile.FieldType.int ∈ lw_tbl := am_tb1 48 (by rfl)
theorem ck_X_23 : Jvm.Cond.classLink "IndependenceRows" (23 : Nat) "IndependenceRows$Tables" ∈ lw_tbl := am_tb1 49 (by rfl)
theorem ins_T : Jvm.Cond.instantiable "IndependenceRows$Tables" (3 : Nat) ∈ lw_tbl := am_tb1 50 (by rfl)
theorem lk_X_25 : Jvm.Cond.methodLinkNest "IndependenceRows" (25 : Nat) ({ cls := "IndependenceRows$Tables", name := "<init>", desc := "()V" } : Jvm.MethodName) "IndependenceRows" ∈ lw_tbl := am_tb1 51 (by rfl)
theorem im_T_init : Jvm.Cond.instanceMethod ({ cls := "IndependenceRows$Tables", name := "<init>", desc := "()V" } : Jvm.MethodName) ∈ lw_tbl := am_tb1 52 (by rfl)
theorem co_T_init : Jvm.Cond.code ({ cls := "IndependenceRows$Tables", name := "<init>", desc := "()V" } : Jvm.MethodName) prog_5_method_1_code (1 : Nat) (Option.none : Option Jvm.ClassFile.FieldType) ∈ lw_tbl := am_tb1 53 (by rfl)
theorem lk_T_3 : Jvm.Cond.methodLink "IndependenceRows$Tables" (3 : Nat) ({ cls := "java/lang/Object", name := "<init>", desc := "()V" } : Jvm.MethodName) ∈ lw_tbl := am_tb1 54 (by rfl)
theorem ck_T_9 : Jvm.Cond.classLink "IndependenceRows$Tables" (9 : Nat) "[[I" ∈ lw_tbl := am_tb1 55 (by rfl)
theorem aov : Jvm.Cond.arrayOver (Jvm.ClassFile.FieldType.array Jvm.ClassFile.FieldType.int) ∈ lw_tbl := am_tb1 56 (by rfl)
theorem fk_T_11 : Jvm.Cond.fieldLink "IndependenceRows$Tables" (11 : Nat) "IndependenceRows$Tables" "eighths" "[[I" ∈ lw_tbl := am_tb1 57 (by rfl)
theorem fk_X_109 : Jvm.Cond.fieldLinkNest "IndependenceRows" (109 : Nat) "IndependenceRows$Tables" "eighths" "[[I" "IndependenceRows" ∈ lw_tbl := am_tb1 58 (by rfl)
theorem fk_T_16 : Jvm.Cond.fieldLink "IndependenceRows$Tables" (16 : Nat) "IndependenceRows$Tables" "held" "I" ∈ lw_tbl := am_tb1 59 (by rfl)
theorem fk_X_126 : Jvm.Cond.fieldLinkNest "IndependenceRows" (126 : Nat) "IndependenceRows$Tables" "held" "I" "IndependenceRows" ∈ lw_tbl := am_tb1 60 (by rfl)
theorem fk_T_20 : Jvm.Cond.fieldLink "IndependenceRows$Tables" (20 : Nat) "IndependenceRows$Tables" "heldValues" "I" ∈ lw_tbl := am_tb1 61 (by rfl)
theorem ck_X_30 : Jvm.Cond.classLink "IndependenceRows" (30 : Nat) "IndependenceRows$Walks" ∈ lw_tbl := am_tb1 69 (by rfl)
theorem ins_V : Jvm.Cond.instantiable "IndependenceRows$Walks" (8 : Nat) ∈ lw_tbl := am_tb1 70 (by rfl)
theorem lk_X_32 : Jvm.Cond.methodLinkNest "IndependenceRows" (32 : Nat) ({ cls := "IndependenceRows$Walks", name := "<init>", desc := "()V" } : Jvm.MethodName) "IndependenceRows" ∈ lw_tbl := am_tb1 71 (by rfl)
theorem im_V_init : Jvm.Cond.instanceMethod ({ cls := "IndependenceRows$Walks", name := "<init>", desc := "()V" } : Jvm.MethodName) ∈ lw_tbl := am_tb1 72 (by rfl)
theorem co_V_init : Jvm.Cond.code ({ cls := "IndependenceRows$Walks", name := "<init>", desc := "()V" } : Jvm.MethodName) prog_6_method_1_code (1 : Nat) (Option.none : Option Jvm.ClassFile.FieldType) ∈ lw_tbl := am_tb1 73 (by rfl)
theorem lk_V_3 : Jvm.Cond.methodLink "IndependenceRows$Walks" (3 : Nat) ({ cls := "java/lang/Object", name := "<init>", desc := "()V" } : Jvm.MethodName) ∈ lw_tbl := am_tb1 74 (by rfl)
theorem fk_V_9 : Jvm.Cond.fieldLink "IndependenceRows$Walks" (9 : Nat) "IndependenceRows$Walks" "into" "[I" ∈ lw_tbl := am_tb1 75 (by rfl)
theorem fk_V_15 : Jvm.Cond.fieldLink "IndependenceRows$Walks" (15 : Nat) "IndependenceRows$Walks" "outOf" "[I" ∈ lw_tbl := am_tb1 76 (by rfl)
theorem fk_V_18 : Jvm.Cond.fieldLink "IndependenceRows$Walks" (18 : Nat) "IndependenceRows$Walks" "given" "I" ∈ lw_tbl := am_tb1 77 (by rfl)
theorem fk_V_22 : Jvm.Cond.fieldLink "IndependenceRows$Walks" (22 : Nat) "IndependenceRows$Walks" "meetable" "I" ∈ lw_tbl := am_tb1 78 (by rfl)
theorem fk_V_25 : Jvm.Cond.fieldLink "IndependenceRows$Walks" (25 : Nat) "IndependenceRows$Walks" "nowAlong" "I" ∈ lw_tbl := am_tb1 79 (by rfl)
theorem fk_V_28 : Jvm.Cond.fieldLink "IndependenceRows$Walks" (28 : Nat) "IndependenceRows$Walks" "nowAgainst" "I" ∈ lw_tbl := am_tb1 80 (by rfl)
theorem fk_V_31 : Jvm.Cond.fieldLink "IndependenceRows$Walks" (31 : Nat) "IndependenceRows$Walks" "seenAlong" "I" ∈ lw_tbl := am_tb1 81 (by rfl)
theorem fk_V_34 : Jvm.Cond.fieldLink "IndependenceRows$Walks" (34 : Nat) "IndependenceRows$Walks" "seenAgainst" "I" ∈ lw_tbl := am_tb1 82 (by rfl)
theorem ck_X_37 : Jvm.Cond.classLink "IndependenceRows" (37 : Nat) "IndependenceRows$Kin" ∈ lw_tbl := am_tb1 100 (by rfl)
theorem ins_K : Jvm.Cond.instantiable "IndependenceRows$Kin" (7 : Nat) ∈ lw_tbl := am_tb1 101 (by rfl)
theorem lk_X_39 : Jvm.Cond.methodLinkNest "IndependenceRows" (39 : Nat) ({ cls := "IndependenceRows$Kin", name := "<init>", desc := "()V" } : Jvm.MethodName) "IndependenceRows" ∈ lw_tbl := am_tb1 102 (by rfl)
theorem im_K_init : Jvm.Cond.instanceMethod ({ cls := "IndependenceRows$Kin", name := "<init>", desc := "()V" } : Jvm.MethodName) ∈ lw_tbl := am_tb1 103 (by rfl)
theorem co_K_init : Jvm.Cond.code ({ cls := "IndependenceRows$Kin", name := "<init>", desc := "()V" } : Jvm.MethodName) prog_3_method_1_code (1 : Nat) (Option.none : Option Jvm.ClassFile.FieldType) ∈ lw_tbl := am_tb1 104 (by rfl)
theorem lk_K_3 : Jvm.Cond.methodLink "IndependenceRows$Kin" (3 : Nat) ({ cls := "java/lang/Object", name := "<init>", desc := "()V" } : Jvm.MethodName) ∈ lw_tbl := am_tb1 105 (by rfl)
theorem ck_K_9 : Jvm.Cond.classLink "IndependenceRows$Kin" (9 : Nat) "IndependenceRows$Graph" ∈ lw_tbl := am_tb1 106 (by rfl)
theorem lk_K_11 : Jvm.Cond.methodLinkNest "IndependenceRows$Kin" (11 : Nat) ({ cls := "IndependenceRows$Graph", name := "<init>", desc := "()V" } : Jvm.MethodName) "IndependenceRows" ∈ lw_tbl := am_tb1 107 (by rfl)
theorem fk_K_12 : Jvm.Cond.fieldLink "IndependenceRows$Kin" (12 : Nat) "IndependenceRows$Kin" "first" "LIndependenceRows$Graph;" ∈ lw_tbl := am_tb1 108 (by rfl)
theorem fk_K_18 : Jvm.Cond.fieldLink "IndependenceRows$Kin" (18 : Nat) "IndependenceRows$Kin" "arcs" "I" ∈ lw_tbl := am_tb1 109 (by rfl)
theorem fk_K_22 : Jvm.Cond.fieldLink "IndependenceRows$Kin" (22 : Nat) "IndependenceRows$Kin" "from" "[I" ∈ lw_tbl := am_tb1 110 (by rfl)
theorem fk_K_26 : Jvm.Cond.fieldLink "IndependenceRows$Kin" (26 : Nat) "IndependenceRows$Kin" "to" "[I" ∈ lw_tbl := am_tb1 111 (by rfl)
theorem fk_K_29 : Jvm.Cond.fieldLink "IndependenceRows$Kin" (29 : Nat) "IndependenceRows$Kin" "parents" "[I" ∈ lw_tbl := am_tb1 112 (by rfl)
theorem fk_K_32 : Jvm.Cond.fieldLink "IndependenceRows$Kin" (32 : Nat) "IndependenceRows$Kin" "found" "I" ∈ lw_tbl := am_tb1 113 (by rfl)
theorem fk_X_184 : Jvm.Cond.fieldLinkNest "IndependenceRows" (184 : Nat) "IndependenceRows$Kin" "found" "I" "IndependenceRows" ∈ lw_tbl := am_tb1 114 (by rfl)
theorem fk_K_35 : Jvm.Cond.fieldLink "IndependenceRows$Kin" (35 : Nat) "IndependenceRows$Kin" "turned" "I" ∈ lw_tbl := am_tb1 115 (by rfl)
theorem fk_X_187 : Jvm.Cond.fieldLinkNest "IndependenceRows" (187 : Nat) "IndependenceRows$Kin" "turned" "I" "IndependenceRows" ∈ lw_tbl := am_tb1 116 (by rfl)
theorem ck_X_44 : Jvm.Cond.classLink "IndependenceRows" (44 : Nat) "IndependenceRows$Margin" ∈ lw_tbl := am_tb1 132 (by rfl)
theorem ins_N : Jvm.Cond.instantiable "IndependenceRows$Margin" (2 : Nat) ∈ lw_tbl := am_tb1 133 (by rfl)
theorem lk_X_46 : Jvm.Cond.methodLinkNest "IndependenceRows" (46 : Nat) ({ cls := "IndependenceRows$Margin", name := "<init>", desc := "()V" } : Jvm.MethodName) "IndependenceRows" ∈ lw_tbl := am_tb1 134 (by rfl)
theorem im_N_init : Jvm.Cond.instanceMethod ({ cls := "IndependenceRows$Margin", name := "<init>", desc := "()V" } : Jvm.MethodName) ∈ lw_tbl := am_tb1 135 (by rfl)
theorem co_N_init : Jvm.Cond.code ({ cls := "IndependenceRows$Margin", name := "<init>", desc := "()V" } : Jvm.MethodName) prog_4_method_1_code (1 : Nat) (Option.none : Option Jvm.ClassFile.FieldType) ∈ lw_tbl := am_tb1 136 (by rfl)
theorem lk_N_3 : Jvm.Cond.methodLink "IndependenceRows$Margin" (3 : Nat) ({ cls := "java/lang/Object", name := "<init>", desc := "()V" } : Jvm.MethodName) ∈ lw_tbl := am_tb1 137 (by rfl)
theorem fk_N_9 : Jvm.Cond.fieldLink "IndependenceRows$Margin" (9 : Nat) "IndependenceRows$Margin" "set" "I" ∈ lw_tbl := am_tb1 138 (by rfl)
theorem fk_N_15 : Jvm.Cond.fieldLink "IndependenceRows$Margin" (15 : Nat) "IndependenceRows$Margin" "sums" "[J" ∈ lw_tbl := am_tb1 139 (by rfl)
theorem arr_long : Jvm.Cond.arrayClass Jvm.ClassFile.FieldType.long ∈ lw_tbl := am_tb1 145 (by rfl)
theorem fk_X_12 : Jvm.Cond.fieldLink "IndependenceRows" (12 : Nat) "IndependenceRows" "graph" "LIndependenceRows$Graph;" ∈ lw_tbl := am_tb1 146 (by rfl)
theorem fk_X_16 : Jvm.Cond.fieldLink "IndependenceRows" (16 : Nat) "IndependenceRows" "kept" "LIndependenceRows$Graph;" ∈ lw_tbl := am_tb1 147 (by rfl)
theorem fk_X_19 : Jvm.Cond.fieldLink "IndependenceRows" (19 : Nat) "IndependenceRows" "anyKept" "Z" ∈ lw_tbl := am_tb1 148 (by rfl)
theorem fk_X_26 : Jvm.Cond.fieldLink "IndependenceRows" (26 : Nat) "IndependenceRows" "tables" "LIndependenceRows$Tables;" ∈ lw_tbl := am_tb1 149 (by rfl)
theorem fk_X_33 : Jvm.Cond.fieldLink "IndependenceRows" (33 : Nat) "IndependenceRows" "walks" "LIndependenceRows$Walks;" ∈ lw_tbl := am_tb1 150 (by rfl)
theorem fk_X_40 : Jvm.Cond.fieldLink "IndependenceRows" (40 : Nat) "IndependenceRows" "kin" "LIndependenceRows$Kin;" ∈ lw_tbl := am_tb1 151 (by rfl)
theorem fk_X_47 : Jvm.Cond.fieldLink "IndependenceRows" (47 : Nat) "IndependenceRows" "ofAll" "LIndependenceRows$Margin;" ∈ lw_tbl := am_tb1 152 (by rfl)
theorem fk_X_51 : Jvm.Cond.fieldLink "IndependenceRows" (51 : Nat) "IndependenceRows" "ofGiven" "LIndependenceRows$Margin;" ∈ lw_tbl := am_tb1 153 (by rfl)
theorem fk_X_54 : Jvm.Cond.fieldLink "IndependenceRows" (54 : Nat) "IndependenceRows" "ofOne" "LIndependenceRows$Margin;" ∈ lw_tbl := am_tb1 154 (by rfl)
theorem fk_X_57 : Jvm.Cond.fieldLink "IndependenceRows" (57 : Nat) "IndependenceRows" "ofOther" "LIndependenceRows$Margin;" ∈ lw_tbl := am_tb1 155 (by rfl)
theorem lk_L_13 : Jvm.Cond.methodLink "IndependenceRowsLaw" (13 : Nat) ({ cls := "IndependenceRows", name := "clear", desc := "()I" } : Jvm.MethodName) ∈ lw_tbl := am_tb1 177 (by rfl)
theorem im_X_clear : Jvm.Cond.instanceMethod ({ cls := "IndependenceRows", name := "clear", desc := "()I" } : Jvm.MethodName) ∈ lw_tbl := am_tb1 178 (by rfl)
theorem se_X_clear : Jvm.Cond.selects "IndependenceRows" ({ cls := "IndependenceRows", name := "clear", desc := "()I" } : Jvm.MethodName) ({ cls := "IndependenceRows", name := "clear", desc := "()I" } : Jvm.MethodName) ∈ lw_tbl := am_tb1 179 (by rfl)
theorem co_X_clear : Jvm.Cond.code ({ cls := "IndependenceRows", name := "clear", desc := "()I" } : Jvm.MethodName) prog_1_method_2_code (2 : Nat) (Option.some Jvm.ClassFile.FieldType.int) ∈ lw_tbl := am_tb1 180 (by rfl)
theorem lk_X_64 : Jvm.Cond.methodLinkNest "IndependenceRows" (64 : Nat) ({ cls := "IndependenceRows$Graph", name := "empty", desc := "()V" } : Jvm.MethodName) "IndependenceRows" ∈ lw_tbl := am_tb1 181 (by rfl)
theorem im_G_empty : Jvm.Cond.instanceMethod ({ cls := "IndependenceRows$Graph", name := "empty", desc := "()V" } : Jvm.MethodName) ∈ lw_tbl := am_tb1 183 (by rfl)
theorem co_G_empty : Jvm.Cond.code ({ cls := "IndependenceRows$Graph", name := "empty", desc := "()V" } : Jvm.MethodName) prog_2_method_2_code (1 : Nat) (Option.none : Option Jvm.ClassFile.FieldType) ∈ lw_tbl := am_tb1 184 (by rfl)
theorem lk_G_25 : Jvm.Cond.methodLink "IndependenceRows$Graph" (25 : Nat) ({ cls := "java/util/Arrays", name := "fill", desc := "([II)V" } : Jvm.MethodName) ∈ lw_tbl := am_tb1 185 (by rfl)
theorem sm_A_fillI : Jvm.Cond.static ({ cls := "java/util/Arrays", name := "fill", desc := "([II)V" } : Jvm.MethodName) ∈ lw_tbl := am_tb1 186 (by rfl)
theorem co_A_fillI : Jvm.Cond.code ({ cls := "java/util/Arrays", name := "fill", desc := "([II)V" } : Jvm.MethodName) prog_11_method_103_code (4 : Nat) (Option.none : Option Jvm.ClassFile.FieldType) ∈ lw_tbl := am_tb1 187 (by rfl)
theorem lk_X_67 : Jvm.Cond.methodLinkNest "IndependenceRows" (67 : Nat) ({ cls := "IndependenceRows$Tables", name := "releaseAll", desc := "()V" } : Jvm.MethodName) "IndependenceRows" ∈ lw_tbl := am_tb1 188 (by rfl)
theorem im_T_releaseAll : Jvm.Cond.instanceMethod ({ cls := "IndependenceRows$Tables", name := "releaseAll", desc := "()V" } : Jvm.MethodName) ∈ lw_tbl := am_tb1 190 (by rfl)
theorem co_T_releaseAll : Jvm.Cond.code ({ cls := "IndependenceRows$Tables", name := "releaseAll", desc := "()V" } : Jvm.MethodName) prog_5_method_3_code (1 : Nat) (Option.none : Option Jvm.ClassFile.FieldType) ∈ lw_tbl := am_tb1 191 (by rfl)
theorem lk_L_18 : Jvm.Cond.methodLink "IndependenceRowsLaw" (18 : Nat) ({ cls := "IndependenceRows", name := "place", desc := "()I" } : Jvm.MethodName) ∈ lw_tbl := am_tb1 192 (by rfl)
theorem im_X_place : Jvm.Cond.instanceMethod ({ cls := "IndependenceRows", name := "place", desc := "()I" } : Jvm.MethodName) ∈ lw_tbl := am_tb1 193 (by rfl)
theorem se_X_place : Jvm.Cond.selects "IndependenceRows" ({ cls := "IndependenceRows", name := "place", desc := "()I" } : Jvm.MethodName) ({ cls := "IndependenceRows", name := "place", desc := "()I" } : Jvm.MethodName) ∈ lw_tbl := am_tb1 194 (by rfl)
theorem co_X_place : Jvm.Cond.code ({ cls := "IndependenceRows", name := "place", desc := "()I" } : Jvm.MethodName) prog_1_method_3_code (2 : Nat) (Option.some Jvm.ClassFile.FieldType.int) ∈ lw_tbl := am_tb1 195 (by rfl)
theorem lk_X_70 : Jvm.Cond.methodLinkNest "IndependenceRows" (70 : Nat) ({ cls := "IndependenceRows$Tables", name := "startRows", desc := "(I)V" } : Jvm.MethodName) "IndependenceRows" ∈ lw_tbl := am_tb1 196 (by rfl)
theorem im_T_startRows : Jvm.Cond.instanceMethod ({ cls := "IndependenceRows$Tables", name := "startRows", desc := "(I)V" } : Jvm.MethodName) ∈ lw_tbl := am_tb1 198 (by rfl)
theorem co_T_startRows : Jvm.Cond.code ({ cls := "IndependenceRows$Tables", name := "startRows", desc := "(I)V" } : Jvm.MethodName) prog_5_method_2_code (2 : Nat) (Option.none : Option Jvm.ClassFile.FieldType) ∈ lw_tbl := am_tb1 199 (by rfl)
theorem lk_T_23 : Jvm.Cond.methodLink "IndependenceRows$Tables" (23 : Nat) ({ cls := "java/util/Arrays", name := "fill", desc := "([II)V" } : Jvm.MethodName) ∈ lw_tbl := am_tb1 200 (by rfl)
theorem lk_L_22 : Jvm.Cond.methodLink "IndependenceRowsLaw" (22 : Nat) ({ cls := "IndependenceRows", name := "arc", desc := "(II)I" } : Jvm.MethodName) ∈ lw_tbl := am_tb1 201 (by rfl)
theorem im_X_arc : Jvm.Cond.instanceMethod ({ cls := "IndependenceRows", name := "arc", desc := "(II)I" } : Jvm.MethodName) ∈ lw_tbl := am_tb1 202 (by rfl)
theorem se_X_arc : Jvm.Cond.selects "IndependenceRows" ({ cls := "IndependenceRows", name := "arc", desc := "(II)I" } : Jvm.MethodName) ({ cls := "IndependenceRows", name := "arc", desc := "(II)I" } : Jvm.MethodName) ∈ lw_tbl := am_tb1 203 (by rfl)
theorem co_X_arc : Jvm.Cond.code ({ cls := "IndependenceRows", name := "arc", desc := "(II)I" } : Jvm.MethodName) prog_1_method_4_code (3 : Nat) (Option.some Jvm.ClassFile.FieldType.int) ∈ lw_tbl := am_tb1 204 (by rfl)
theorem lk_X_74 : Jvm.Cond.methodLink "IndependenceRows" (74 : Nat) ({ cls := "IndependenceRows", name := "isPair", desc := "(II)Z" } : Jvm.MethodName) ∈ lw_tbl := am_tb1 205 (by rfl)
theorem im_X_isPair : Jvm.Cond.instanceMethod ({ cls := "IndependenceRows", name := "isPair", desc := "(II)Z" } : Jvm.MethodName) ∈ lw_tbl := am_tb1 207 (by rfl)
theorem co_X_isPair : Jvm.Cond.code ({ cls := "IndependenceRows", name := "isPair", desc := "(II)Z" } : Jvm.MethodName) prog_1_method_24_code (3 : Nat) (Option.some Jvm.ClassFile.FieldType.boolean) ∈ lw_tbl := am_tb1 208 (by rfl)
theorem lk_X_113 : Jvm.Cond.methodLink "IndependenceRows" (113 : Nat) ({ cls := "IndependenceRows", name := "isPlace", desc := "(I)Z" } : Jvm.MethodName) ∈ lw_tbl := am_tb1 209 (by rfl)
theorem im_X_isPlace : Jvm.Cond.instanceMethod ({ cls := "IndependenceRows", name := "isPlace", desc := "(I)Z" } : Jvm.MethodName) ∈ lw_tbl := am_tb1 211 (by rfl)
theorem co_X_isPlace : Jvm.Cond.code ({ cls := "IndependenceRows", name := "isPlace", desc := "(I)Z" } : Jvm.MethodName) prog_1_method_23_code (2 : Nat) (Option.some Jvm.ClassFile.FieldType.boolean) ∈ lw_tbl := am_tb1 212 (by rfl)
theorem lk_X_78 : Jvm.Cond.methodLinkNest "IndependenceRows" (78 : Nat) ({ cls := "IndependenceRows$Graph", name := "neighbours", desc := "(I)I" } : Jvm.MethodName) "IndependenceRows" ∈ lw_tbl := am_tb1 213 (by rfl)
theorem im_G_neighbours : Jvm.Cond.instanceMethod ({ cls := "IndependenceRows$Graph", name := "neighbours", desc := "(I)I" } : Jvm.MethodName) ∈ lw_tbl := am_tb1 215 (by rfl)
theorem co_G_neighbours : Jvm.Cond.code ({ cls := "IndependenceRows$Graph", name := "neighbours", desc := "(I)I" } : Jvm.MethodName) prog_2_method_7_code (2 : Nat) (Option.some Jvm.ClassFile.FieldType.int) ∈ lw_tbl := am_tb1 216 (by rfl)
theorem lk_X_82 : Jvm.Cond.methodLink "IndependenceRows" (82 : Nat) ({ cls := "IndependenceRows", name := "has", desc := "(II)Z" } : Jvm.MethodName) ∈ lw_tbl := am_tb1 217 (by rfl)
theorem sm_X_has : Jvm.Cond.static ({ cls := "IndependenceRows", name := "has", desc := "(II)Z" } : Jvm.MethodName) ∈ lw_tbl := am_tb1 218 (by rfl)
theorem co_X_has : Jvm.Cond.code ({ cls := "IndependenceRows", name := "has", desc := "(II)Z" } : Jvm.MethodName) prog_1_method_32_code (2 : Nat) (Option.some Jvm.ClassFile.FieldType.boolean) ∈ lw_tbl := am_tb1 219 (by rfl)
theorem lk_X_89 : Jvm.Cond.methodLink "IndependenceRows" (89 : Nat) ({ cls := "IndependenceRows", name := "bit", desc := "(I)I" } : Jvm.MethodName) ∈ lw_tbl := am_tb1 220 (by rfl)
theorem sm_X_bit : Jvm.Cond.static ({ cls := "IndependenceRows", name := "bit", desc := "(I)I" } : Jvm.MethodName) ∈ lw_tbl := am_tb1 221 (by rfl)
theorem co_X_bit : Jvm.Cond.code ({ cls := "IndependenceRows", name := "bit", desc := "(I)I" } : Jvm.MethodName) prog_1_method_31_code (1 : Nat) (Option.some Jvm.ClassFile.FieldType.int) ∈ lw_tbl := am_tb1 222 (by rfl)
theorem lk_X_92 : Jvm.Cond.methodLink "IndependenceRows" (92 : Nat) ({ cls := "IndependenceRows", name := "closure", desc := "([II)I" } : Jvm.MethodName) ∈ lw_tbl := am_tb1 223 (by rfl)
theorem sm_X_closure : Jvm.Cond.static ({ cls := "IndependenceRows", name := "closure", desc := "([II)I" } : Jvm.MethodName) ∈ lw_tbl := am_tb1 224 (by rfl)
theorem co_X_closure : Jvm.Cond.code ({ cls := "IndependenceRows", name := "closure", desc := "([II)I" } : Jvm.MethodName) prog_1_method_34_code (5 : Nat) (Option.some Jvm.ClassFile.FieldType.int) ∈ lw_tbl := am_tb1 225 (by rfl)
theorem lk_X_210 : Jvm.Cond.methodLink "IndependenceRows" (210 : Nat) ({ cls := "IndependenceRows", name := "union", desc := "([II)I" } : Jvm.MethodName) ∈ lw_tbl := am_tb1 226 (by rfl)
theorem sm_X_union : Jvm.Cond.static ({ cls := "IndependenceRows", name := "union", desc := "([II)I" } : Jvm.MethodName) ∈ lw_tbl := am_tb1 227 (by rfl)
theorem co_X_union : Jvm.Cond.code ({ cls := "IndependenceRows", name := "union", desc := "([II)I" } : Jvm.MethodName) prog_1_method_33_code (4 : Nat) (Option.some Jvm.ClassFile.FieldType.int) ∈ lw_tbl := am_tb1 228 (by rfl)
theorem lk_X_99 : Jvm.Cond.methodLinkNest "IndependenceRows" (99 : Nat) ({ cls := "IndependenceRows$Graph", name := "join", desc := "(II)V" } : Jvm.MethodName) "IndependenceRows" ∈ lw_tbl := am_tb1 229 (by rfl)
theorem im_G_join : Jvm.Cond.instanceMethod ({ cls := "IndependenceRows$Graph", name := "join", desc := "(II)V" } : Jvm.MethodName) ∈ lw_tbl := am_tb1 231 (by rfl)
theorem co_G_join : Jvm.Cond.code ({ cls := "IndependenceRows$Graph", name := "join", desc := "(II)V" } : Jvm.MethodName) prog_2_method_4_code (3 : Nat) (Option.none : Option Jvm.ClassFile.FieldType) ∈ lw_tbl := am_tb1 232 (by rfl)
theorem lk_G_37 : Jvm.Cond.methodLinkNest "IndependenceRows$Graph" (37 : Nat) ({ cls := "IndependenceRows", name := "bit", desc := "(I)I" } : Jvm.MethodName) "IndependenceRows" ∈ lw_tbl := am_tb1 233 (by rfl)
theorem lk_L_27 : Jvm.Cond.methodLink "IndependenceRowsLaw" (27 : Nat) ({ cls := "IndependenceRows", name := "cut", desc := "(II)I" } : Jvm.MethodName) ∈ lw_tbl := am_tb1 234 (by rfl)
theorem im_X_cut : Jvm.Cond.instanceMethod ({ cls := "IndependenceRows", name := "cut", desc := "(II)I" } : Jvm.MethodName) ∈ lw_tbl := am_tb1 235 (by rfl)
theorem se_X_cut : Jvm.Cond.selects "IndependenceRows" ({ cls := "IndependenceRows", name := "cut", desc := "(II)I" } : Jvm.MethodName) ({ cls := "IndependenceRows", name := "cut", desc := "(II)I" } : Jvm.MethodName) ∈ lw_tbl := am_tb1 236 (by rfl)
theorem co_X_cut : Jvm.Cond.code ({ cls := "IndependenceRows", name := "cut", desc := "(II)I" } : Jvm.MethodName) prog_1_method_5_code (3 : Nat) (Option.some Jvm.ClassFile.FieldType.int) ∈ lw_tbl := am_tb1 237 (by rfl)
theorem lk_X_103 : Jvm.Cond.methodLinkNest "IndependenceRows" (103 : Nat) ({ cls := "IndependenceRows$Graph", name := "part", desc := "(II)V" } : Jvm.MethodName) "IndependenceRows" ∈ lw_tbl := am_tb1 238 (by rfl)
theorem im_G_part : Jvm.Cond.instanceMethod ({ cls := "IndependenceRows$Graph", name := "part", desc := "(II)V" } : Jvm.MethodName) ∈ lw_tbl := am_tb2 0 (by rfl)
theorem co_G_part : Jvm.Cond.code ({ cls := "IndependenceRows$Graph", name := "part", desc := "(II)V" } : Jvm.MethodName) prog_2_method_5_code (3 : Nat) (Option.none : Option Jvm.ClassFile.FieldType) ∈ lw_tbl := am_tb2 1 (by rfl)
theorem lk_L_31 : Jvm.Cond.methodLink "IndependenceRowsLaw" (31 : Nat) ({ cls := "IndependenceRows", name := "odds", desc := "(III)I" } : Jvm.MethodName) ∈ lw_tbl := am_tb2 2 (by rfl)
theorem im_X_odds : Jvm.Cond.instanceMethod ({ cls := "IndependenceRows", name := "odds", desc := "(III)I" } : Jvm.MethodName) ∈ lw_tbl := am_tb2 3 (by rfl)
theorem se_X_odds : Jvm.Cond.selects "IndependenceRows" ({ cls := "IndependenceRows", name := "odds", desc := "(III)I" } : Jvm.MethodName) ({ cls := "IndependenceRows", name := "odds", desc := "(III)I" } : Jvm.MethodName) ∈ lw_tbl := am_tb2 4 (by rfl)
theorem co_X_odds : Jvm.Cond.code ({ cls := "IndependenceRows", name := "odds", desc := "(III)I" } : Jvm.MethodName) prog_1_method_6_code (5 : Nat) (Option.some Jvm.ClassFile.FieldType.int) ∈ lw_tbl := am_tb2 5 (by rfl)
theorem lk_X_106 : Jvm.Cond.methodLink "IndependenceRows" (106 : Nat) ({ cls := "IndependenceRows", name := "isRow", desc := "(II)Z" } : Jvm.MethodName) ∈ lw_tbl := am_tb2 6 (by rfl)
theorem im_X_isRow : Jvm.Cond.instanceMethod ({ cls := "IndependenceRows", name := "isRow", desc := "(II)Z" } : Jvm.MethodName) ∈ lw_tbl := am_tb2 8 (by rfl)
theorem co_X_isRow : Jvm.Cond.code ({ cls := "IndependenceRows", name := "isRow", desc := "(II)Z" } : Jvm.MethodName) prog_1_method_27_code (3 : Nat) (Option.some Jvm.ClassFile.FieldType.boolean) ∈ lw_tbl := am_tb2 9 (by rfl)
theorem lk_X_136 : Jvm.Cond.methodLinkNest "IndependenceRows" (136 : Nat) ({ cls := "IndependenceRows$Graph", name := "rows", desc := "(I)I" } : Jvm.MethodName) "IndependenceRows" ∈ lw_tbl := am_tb2 10 (by rfl)
theorem im_G_rows : Jvm.Cond.instanceMethod ({ cls := "IndependenceRows$Graph", name := "rows", desc := "(I)I" } : Jvm.MethodName) ∈ lw_tbl := am_tb2 12 (by rfl)
theorem co_G_rows : Jvm.Cond.code ({ cls := "IndependenceRows$Graph", name := "rows", desc := "(I)I" } : Jvm.MethodName) prog_2_method_8_code (2 : Nat) (Option.some Jvm.ClassFile.FieldType.int) ∈ lw_tbl := am_tb2 13 (by rfl)
theorem lk_G_41 : Jvm.Cond.methodLink "IndependenceRows$Graph" (41 : Nat) ({ cls := "java/lang/Integer", name := "bitCount", desc := "(I)I" } : Jvm.MethodName) ∈ lw_tbl := am_tb2 14 (by rfl)
theorem sm_I_bitCount : Jvm.Cond.static ({ cls := "java/lang/Integer", name := "bitCount", desc := "(I)I" } : Jvm.MethodName) ∈ lw_tbl := am_tb2 15 (by rfl)
theorem co_I_bitCount : Jvm.Cond.code ({ cls := "java/lang/Integer", name := "bitCount", desc := "(I)I" } : Jvm.MethodName) prog_9_method_49_code (1 : Nat) (Option.some Jvm.ClassFile.FieldType.int) ∈ lw_tbl := am_tb2 16 (by rfl)
theorem kk_I_265 : Jvm.Cond.constant "java/lang/Integer" (265 : Nat) (1431655765 : Int32) ∈ lw_tbl := am_tb2 17 (by rfl)
theorem kk_I_266 : Jvm.Cond.constant "java/lang/Integer" (266 : Nat) (858993459 : Int32) ∈ lw_tbl := am_tb2 18 (by rfl)
theorem kk_I_267 : Jvm.Cond.constant "java/lang/Integer" (267 : Nat) (252645135 : Int32) ∈ lw_tbl := am_tb2 19 (by rfl)
theorem lk_L_36 : Jvm.Cond.methodLink "IndependenceRowsLaw" (36 : Nat) ({ cls := "IndependenceRows", name := "hold", desc := "(II)I" } : Jvm.MethodName) ∈ lw_tbl := am_tb2 20 (by rfl)
theorem im_X_hold : Jvm.Cond.instanceMethod ({ cls := "IndependenceRows", name := "hold", desc := "(II)I" } : Jvm.MethodName) ∈ lw_tbl := am_tb2 21 (by rfl)
theorem se_X_hold : Jvm.Cond.selects "IndependenceRows" ({ cls := "IndependenceRows", name := "hold", desc := "(II)I" } : Jvm.MethodName) ({ cls := "IndependenceRows", name := "hold", desc := "(II)I" } : Jvm.MethodName) ∈ lw_tbl := am_tb2 22 (by rfl)
theorem co_X_hold : Jvm.Cond.code ({ cls := "IndependenceRows", name := "hold", desc := "(II)I" } : Jvm.MethodName) prog_1_method_7_code (4 : Nat) (Option.some Jvm.ClassFile.FieldType.int) ∈ lw_tbl := am_tb2 23 (by rfl)
theorem lk_X_117 : Jvm.Cond.methodLinkNest "IndependenceRows" (117 : Nat) ({ cls := "IndependenceRows$Tables", name := "heldAt", desc := "(I)I" } : Jvm.MethodName) "IndependenceRows" ∈ lw_tbl := am_tb2 24 (by rfl)
theorem im_T_heldAt : Jvm.Cond.instanceMethod ({ cls := "IndependenceRows$Tables", name := "heldAt", desc := "(I)I" } : Jvm.MethodName) ∈ lw_tbl := am_tb2 26 (by rfl)
theorem co_T_heldAt : Jvm.Cond.code ({ cls := "IndependenceRows$Tables", name := "heldAt", desc := "(I)I" } : Jvm.MethodName) prog_5_method_5_code (2 : Nat) (Option.some Jvm.ClassFile.FieldType.int) ∈ lw_tbl := am_tb2 27 (by rfl)
theorem lk_T_33 : Jvm.Cond.methodLinkNest "IndependenceRows$Tables" (33 : Nat) ({ cls := "IndependenceRows", name := "has", desc := "(II)Z" } : Jvm.MethodName) "IndependenceRows" ∈ lw_tbl := am_tb2 28 (by rfl)
theorem lk_X_120 : Jvm.Cond.methodLinkNest "IndependenceRows" (120 : Nat) ({ cls := "IndependenceRows$Tables", name := "setHeld", desc := "(II)V" } : Jvm.MethodName) "IndependenceRows" ∈ lw_tbl := am_tb2 29 (by rfl)
theorem im_T_setHeld : Jvm.Cond.instanceMethod ({ cls := "IndependenceRows$Tables", name := "setHeld", desc := "(II)V" } : Jvm.MethodName) ∈ lw_tbl := am_tb2 31 (by rfl)
theorem co_T_setHeld : Jvm.Cond.code ({ cls := "IndependenceRows$Tables", name := "setHeld", desc := "(II)V" } : Jvm.MethodName) prog_5_method_4_code (3 : Nat) (Option.none : Option Jvm.ClassFile.FieldType) ∈ lw_tbl := am_tb2 32 (by rfl)
theorem lk_T_29 : Jvm.Cond.methodLinkNest "IndependenceRows$Tables" (29 : Nat) ({ cls := "IndependenceRows", name := "bit", desc := "(I)I" } : Jvm.MethodName) "IndependenceRows" ∈ lw_tbl := am_tb2 33 (by rfl)
theorem lk_L_40 : Jvm.Cond.methodLink "IndependenceRowsLaw" (40 : Nat) ({ cls := "IndependenceRows", name := "told", desc := "(II)I" } : Jvm.MethodName) ∈ lw_tbl := am_tb2 34 (by rfl)
theorem im_X_told : Jvm.Cond.instanceMethod ({ cls := "IndependenceRows", name := "told", desc := "(II)I" } : Jvm.MethodName) ∈ lw_tbl := am_tb2 35 (by rfl)
theorem se_X_told : Jvm.Cond.selects "IndependenceRows" ({ cls := "IndependenceRows", name := "told", desc := "(II)I" } : Jvm.MethodName) ({ cls := "IndependenceRows", name := "told", desc := "(II)I" } : Jvm.MethodName) ∈ lw_tbl := am_tb2 36 (by rfl)
theorem co_X_told : Jvm.Cond.code ({ cls := "IndependenceRows", name := "told", desc := "(II)I" } : Jvm.MethodName) prog_1_method_8_code (3 : Nat) (Option.some Jvm.ClassFile.FieldType.int) ∈ lw_tbl := am_tb2 37 (by rfl)
theorem lk_L_44 : Jvm.Cond.methodLink "IndependenceRowsLaw" (44 : Nat) ({ cls := "IndependenceRows", name := "of", desc := "(II)I" } : Jvm.MethodName) ∈ lw_tbl := am_tb2 38 (by rfl)
theorem im_X_of : Jvm.Cond.instanceMethod ({ cls := "IndependenceRows", name := "of", desc := "(II)I" } : Jvm.MethodName) ∈ lw_tbl := am_tb2 39 (by rfl)
theorem se_X_of : Jvm.Cond.selects "IndependenceRows" ({ cls := "IndependenceRows", name := "of", desc := "(II)I" } : Jvm.MethodName) ({ cls := "IndependenceRows", name := "of", desc := "(II)I" } : Jvm.MethodName) ∈ lw_tbl := am_tb2 40 (by rfl)
theorem co_X_of : Jvm.Cond.code ({ cls := "IndependenceRows", name := "of", desc := "(II)I" } : Jvm.MethodName) prog_1_method_9_code (3 : Nat) (Option.some Jvm.ClassFile.FieldType.int) ∈ lw_tbl := am_tb2 41 (by rfl)
theorem lk_X_129 : Jvm.Cond.methodLinkNest "IndependenceRows" (129 : Nat) ({ cls := "IndependenceRows$Walks", name := "lookAt", desc := "(LIndependenceRows$Graph;II)V" } : Jvm.MethodName) "IndependenceRows" ∈ lw_tbl := am_tb2 42 (by rfl)
theorem im_V_lookAt : Jvm.Cond.instanceMethod ({ cls := "IndependenceRows$Walks", name := "lookAt", desc := "(LIndependenceRows$Graph;II)V" } : Jvm.MethodName) ∈ lw_tbl := am_tb2 44 (by rfl)
theorem co_V_lookAt : Jvm.Cond.code ({ cls := "IndependenceRows$Walks", name := "lookAt", desc := "(LIndependenceRows$Graph;II)V" } : Jvm.MethodName) prog_6_method_2_code (5 : Nat) (Option.none : Option Jvm.ClassFile.FieldType) ∈ lw_tbl := am_tb2 45 (by rfl)
theorem lk_V_37 : Jvm.Cond.methodLinkNest "IndependenceRows$Walks" (37 : Nat) ({ cls := "IndependenceRows", name := "has", desc := "(II)Z" } : Jvm.MethodName) "IndependenceRows" ∈ lw_tbl := am_tb2 46 (by rfl)
theorem lk_X_133 : Jvm.Cond.methodLinkNest "IndependenceRows" (133 : Nat) ({ cls := "IndependenceRows$Walks", name := "below", desc := "(I)I" } : Jvm.MethodName) "IndependenceRows" ∈ lw_tbl := am_tb2 47 (by rfl)
theorem im_V_below : Jvm.Cond.instanceMethod ({ cls := "IndependenceRows$Walks", name := "below", desc := "(I)I" } : Jvm.MethodName) ∈ lw_tbl := am_tb2 49 (by rfl)
theorem co_V_below : Jvm.Cond.code ({ cls := "IndependenceRows$Walks", name := "below", desc := "(I)I" } : Jvm.MethodName) prog_6_method_3_code (2 : Nat) (Option.some Jvm.ClassFile.FieldType.int) ∈ lw_tbl := am_tb2 50 (by rfl)
theorem lk_V_49 : Jvm.Cond.methodLinkNest "IndependenceRows$Walks" (49 : Nat) ({ cls := "IndependenceRows", name := "closure", desc := "([II)I" } : Jvm.MethodName) "IndependenceRows" ∈ lw_tbl := am_tb2 51 (by rfl)
theorem lk_L_48 : Jvm.Cond.methodLink "IndependenceRowsLaw" (48 : Nat) ({ cls := "IndependenceRows", name := "separated", desc := "(III)I" } : Jvm.MethodName) ∈ lw_tbl := am_tb2 52 (by rfl)
theorem im_X_separated : Jvm.Cond.instanceMethod ({ cls := "IndependenceRows", name := "separated", desc := "(III)I" } : Jvm.MethodName) ∈ lw_tbl := am_tb2 53 (by rfl)
theorem se_X_separated : Jvm.Cond.selects "IndependenceRows" ({ cls := "IndependenceRows", name := "separated", desc := "(III)I" } : Jvm.MethodName) ({ cls := "IndependenceRows", name := "separated", desc := "(III)I" } : Jvm.MethodName) ∈ lw_tbl := am_tb2 54 (by rfl)
theorem co_X_separated : Jvm.Cond.code ({ cls := "IndependenceRows", name := "separated", desc := "(III)I" } : Jvm.MethodName) prog_1_method_10_code (4 : Nat) (Option.some Jvm.ClassFile.FieldType.int) ∈ lw_tbl := am_tb2 55 (by rfl)
theorem lk_X_139 : Jvm.Cond.methodLink "IndependenceRows" (139 : Nat) ({ cls := "IndependenceRows", name := "isQuestion", desc := "(III)Z" } : Jvm.MethodName) ∈ lw_tbl := am_tb2 56 (by rfl)
theorem im_X_isQuestion : Jvm.Cond.instanceMethod ({ cls := "IndependenceRows", name := "isQuestion", desc := "(III)Z" } : Jvm.MethodName) ∈ lw_tbl := am_tb2 58 (by rfl)
theorem co_X_isQuestion : Jvm.Cond.code ({ cls := "IndependenceRows", name := "isQuestion", desc := "(III)Z" } : Jvm.MethodName) prog_1_method_26_code (4 : Nat) (Option.some Jvm.ClassFile.FieldType.boolean) ∈ lw_tbl := am_tb2 59 (by rfl)
theorem lk_X_151 : Jvm.Cond.methodLink "IndependenceRows" (151 : Nat) ({ cls := "IndependenceRows", name := "isSet", desc := "(I)Z" } : Jvm.MethodName) ∈ lw_tbl := am_tb2 60 (by rfl)
theorem im_X_isSet : Jvm.Cond.instanceMethod ({ cls := "IndependenceRows", name := "isSet", desc := "(I)Z" } : Jvm.MethodName) ∈ lw_tbl := am_tb2 62 (by rfl)
theorem co_X_isSet : Jvm.Cond.code ({ cls := "IndependenceRows", name := "isSet", desc := "(I)Z" } : Jvm.MethodName) prog_1_method_25_code (2 : Nat) (Option.some Jvm.ClassFile.FieldType.boolean) ∈ lw_tbl := am_tb2 63 (by rfl)
theorem lk_X_156 : Jvm.Cond.methodLinkNest "IndependenceRows" (156 : Nat) ({ cls := "IndependenceRows$Graph", name := "everyPlace", desc := "()I" } : Jvm.MethodName) "IndependenceRows" ∈ lw_tbl := am_tb2 64 (by rfl)
theorem im_G_everyPlace : Jvm.Cond.instanceMethod ({ cls := "IndependenceRows$Graph", name := "everyPlace", desc := "()I" } : Jvm.MethodName) ∈ lw_tbl := am_tb2 66 (by rfl)
theorem co_G_everyPlace : Jvm.Cond.code ({ cls := "IndependenceRows$Graph", name := "everyPlace", desc := "()I" } : Jvm.MethodName) prog_2_method_6_code (1 : Nat) (Option.some Jvm.ClassFile.FieldType.int) ∈ lw_tbl := am_tb2 67 (by rfl)
theorem lk_X_143 : Jvm.Cond.methodLinkNest "IndependenceRows" (143 : Nat) ({ cls := "IndependenceRows$Walks", name := "shortest", desc := "(III)I" } : Jvm.MethodName) "IndependenceRows" ∈ lw_tbl := am_tb2 68 (by rfl)
theorem im_V_shortest : Jvm.Cond.instanceMethod ({ cls := "IndependenceRows$Walks", name := "shortest", desc := "(III)I" } : Jvm.MethodName) ∈ lw_tbl := am_tb2 70 (by rfl)
theorem co_V_shortest : Jvm.Cond.code ({ cls := "IndependenceRows$Walks", name := "shortest", desc := "(III)I" } : Jvm.MethodName) prog_6_method_4_code (5 : Nat) (Option.some Jvm.ClassFile.FieldType.int) ∈ lw_tbl := am_tb2 71 (by rfl)
theorem lk_V_53 : Jvm.Cond.methodLink "IndependenceRows$Walks" (53 : Nat) ({ cls := "IndependenceRows$Walks", name := "start", desc := "(II)V" } : Jvm.MethodName) ∈ lw_tbl := am_tb2 72 (by rfl)
theorem im_V_start : Jvm.Cond.instanceMethod ({ cls := "IndependenceRows$Walks", name := "start", desc := "(II)V" } : Jvm.MethodName) ∈ lw_tbl := am_tb2 74 (by rfl)
theorem co_V_start : Jvm.Cond.code ({ cls := "IndependenceRows$Walks", name := "start", desc := "(II)V" } : Jvm.MethodName) prog_6_method_6_code (3 : Nat) (Option.none : Option Jvm.ClassFile.FieldType) ∈ lw_tbl := am_tb2 75 (by rfl)
theorem lk_V_57 : Jvm.Cond.methodLink "IndependenceRows$Walks" (57 : Nat) ({ cls := "IndependenceRows$Walks", name := "step", desc := "()V" } : Jvm.MethodName) ∈ lw_tbl := am_tb2 76 (by rfl)
theorem im_V_step : Jvm.Cond.instanceMethod ({ cls := "IndependenceRows$Walks", name := "step", desc := "()V" } : Jvm.MethodName) ∈ lw_tbl := am_tb2 78 (by rfl)
theorem co_V_step : Jvm.Cond.code ({ cls := "IndependenceRows$Walks", name := "step", desc := "()V" } : Jvm.MethodName) prog_6_method_7_code (4 : Nat) (Option.none : Option Jvm.ClassFile.FieldType) ∈ lw_tbl := am_tb2 79 (by rfl)
theorem lk_V_60 : Jvm.Cond.methodLinkNest "IndependenceRows$Walks" (60 : Nat) ({ cls := "IndependenceRows", name := "union", desc := "([II)I" } : Jvm.MethodName) "IndependenceRows" ∈ lw_tbl := am_tb2 80 (by rfl)
theorem lk_X_147 : Jvm.Cond.methodLink "IndependenceRows" (147 : Nat) ({ cls := "IndependenceRows", name := "answer", desc := "(Z)I" } : Jvm.MethodName) ∈ lw_tbl := am_tb2 81 (by rfl)
theorem sm_X_answer : Jvm.Cond.static ({ cls := "IndependenceRows", name := "answer", desc := "(Z)I" } : Jvm.MethodName) ∈ lw_tbl := am_tb2 82 (by rfl)
theorem co_X_answer : Jvm.Cond.code ({ cls := "IndependenceRows", name := "answer", desc := "(Z)I" } : Jvm.MethodName) prog_1_method_30_code (1 : Nat) (Option.some Jvm.ClassFile.FieldType.int) ∈ lw_tbl := am_tb2 83 (by rfl)
theorem lk_L_52 : Jvm.Cond.methodLink "IndependenceRowsLaw" (52 : Nat) ({ cls := "IndependenceRows", name := "walk", desc := "(III)I" } : Jvm.MethodName) ∈ lw_tbl := am_tb2 84 (by rfl)
theorem im_X_walk : Jvm.Cond.instanceMethod ({ cls := "IndependenceRows", name := "walk", desc := "(III)I" } : Jvm.MethodName) ∈ lw_tbl := am_tb2 85 (by rfl)
theorem se_X_walk : Jvm.Cond.selects "IndependenceRows" ({ cls := "IndependenceRows", name := "walk", desc := "(III)I" } : Jvm.MethodName) ({ cls := "IndependenceRows", name := "walk", desc := "(III)I" } : Jvm.MethodName) ∈ lw_tbl := am_tb2 86 (by rfl)
theorem co_X_walk : Jvm.Cond.code ({ cls := "IndependenceRows", name := "walk", desc := "(III)I" } : Jvm.MethodName) prog_1_method_11_code (4 : Nat) (Option.some Jvm.ClassFile.FieldType.int) ∈ lw_tbl := am_tb2 87 (by rfl)
theorem lk_L_56 : Jvm.Cond.methodLink "IndependenceRowsLaw" (56 : Nat) ({ cls := "IndependenceRows", name := "weight", desc := "(II)J" } : Jvm.MethodName) ∈ lw_tbl := am_tb2 88 (by rfl)
theorem im_X_weight : Jvm.Cond.instanceMethod ({ cls := "IndependenceRows", name := "weight", desc := "(II)J" } : Jvm.MethodName) ∈ lw_tbl := am_tb2 89 (by rfl)
theorem se_X_weight : Jvm.Cond.selects "IndependenceRows" ({ cls := "IndependenceRows", name := "weight", desc := "(II)J" } : Jvm.MethodName) ({ cls := "IndependenceRows", name := "weight", desc := "(II)J" } : Jvm.MethodName) ∈ lw_tbl := am_tb2 90 (by rfl)
theorem co_X_weight : Jvm.Cond.code ({ cls := "IndependenceRows", name := "weight", desc := "(II)J" } : Jvm.MethodName) prog_1_method_12_code (7 : Nat) (Option.some Jvm.ClassFile.FieldType.long) ∈ lw_tbl := am_tb2 91 (by rfl)
theorem kk_X_154 : Jvm.Cond.constantLong "IndependenceRows" (154 : Nat) (-2 : Int64) ∈ lw_tbl := am_tb2 92 (by rfl)
theorem lk_X_160 : Jvm.Cond.methodLinkNest "IndependenceRows" (160 : Nat) ({ cls := "IndependenceRows$Tables", name := "product", desc := "(LIndependenceRows$Graph;I)J" } : Jvm.MethodName) "IndependenceRows" ∈ lw_tbl := am_tb2 93 (by rfl)
theorem im_T_product : Jvm.Cond.instanceMethod ({ cls := "IndependenceRows$Tables", name := "product", desc := "(LIndependenceRows$Graph;I)J" } : Jvm.MethodName) ∈ lw_tbl := am_tb2 95 (by rfl)
theorem co_T_product : Jvm.Cond.code ({ cls := "IndependenceRows$Tables", name := "product", desc := "(LIndependenceRows$Graph;I)J" } : Jvm.MethodName) prog_5_method_6_code (6 : Nat) (Option.some Jvm.ClassFile.FieldType.long) ∈ lw_tbl := am_tb2 96 (by rfl)
theorem kk_T_42 : Jvm.Cond.constantLong "IndependenceRows$Tables" (42 : Nat) (8 : Int64) ∈ lw_tbl := am_tb2 97 (by rfl)
theorem lk_T_44 : Jvm.Cond.methodLink "IndependenceRows$Tables" (44 : Nat) ({ cls := "IndependenceRows$Tables", name := "factor", desc := "(LIndependenceRows$Graph;II)I" } : Jvm.MethodName) ∈ lw_tbl := am_tb2 98 (by rfl)
theorem im_T_factor : Jvm.Cond.instanceMethod ({ cls := "IndependenceRows$Tables", name := "factor", desc := "(LIndependenceRows$Graph;II)I" } : Jvm.MethodName) ∈ lw_tbl := am_tb2 100 (by rfl)
theorem co_T_factor : Jvm.Cond.code ({ cls := "IndependenceRows$Tables", name := "factor", desc := "(LIndependenceRows$Graph;II)I" } : Jvm.MethodName) prog_5_method_7_code (5 : Nat) (Option.some Jvm.ClassFile.FieldType.int) ∈ lw_tbl := am_tb2 101 (by rfl)
theorem lk_T_52 : Jvm.Cond.methodLink "IndependenceRows$Tables" (52 : Nat) ({ cls := "IndependenceRows$Tables", name := "rowIn", desc := "(II)I" } : Jvm.MethodName) ∈ lw_tbl := am_tb2 102 (by rfl)
theorem sm_T_rowIn : Jvm.Cond.static ({ cls := "IndependenceRows$Tables", name := "rowIn", desc := "(II)I" } : Jvm.MethodName) ∈ lw_tbl := am_tb2 103 (by rfl)
theorem co_T_rowIn : Jvm.Cond.code ({ cls := "IndependenceRows$Tables", name := "rowIn", desc := "(II)I" } : Jvm.MethodName) prog_5_method_8_code (5 : Nat) (Option.some Jvm.ClassFile.FieldType.int) ∈ lw_tbl := am_tb2 104 (by rfl)
theorem lk_L_61 : Jvm.Cond.methodLink "IndependenceRowsLaw" (61 : Nat) ({ cls := "IndependenceRows", name := "independent", desc := "(III)I" } : Jvm.MethodName) ∈ lw_tbl := am_tb2 105 (by rfl)
theorem im_X_independent : Jvm.Cond.instanceMethod ({ cls := "IndependenceRows", name := "independent", desc := "(III)I" } : Jvm.MethodName) ∈ lw_tbl := am_tb2 106 (by rfl)
theorem se_X_independent : Jvm.Cond.selects "IndependenceRows" ({ cls := "IndependenceRows", name := "independent", desc := "(III)I" } : Jvm.MethodName) ({ cls := "IndependenceRows", name := "independent", desc := "(III)I" } : Jvm.MethodName) ∈ lw_tbl := am_tb2 107 (by rfl)
theorem co_X_independent : Jvm.Cond.code ({ cls := "IndependenceRows", name := "independent", desc := "(III)I" } : Jvm.MethodName) prog_1_method_13_code (4 : Nat) (Option.some Jvm.ClassFile.FieldType.int) ∈ lw_tbl := am_tb2 108 (by rfl)
theorem lk_X_164 : Jvm.Cond.methodLink "IndependenceRows" (164 : Nat) ({ cls := "IndependenceRows", name := "leastDifference", desc := "(III)I" } : Jvm.MethodName) ∈ lw_tbl := am_tb2 109 (by rfl)
theorem im_X_leastDifference : Jvm.Cond.instanceMethod ({ cls := "IndependenceRows", name := "leastDifference", desc := "(III)I" } : Jvm.MethodName) ∈ lw_tbl := am_tb2 111 (by rfl)
theorem co_X_leastDifference : Jvm.Cond.code ({ cls := "IndependenceRows", name := "leastDifference", desc := "(III)I" } : Jvm.MethodName) prog_1_method_28_code (9 : Nat) (Option.some Jvm.ClassFile.FieldType.int) ∈ lw_tbl := am_tb2 112 (by rfl)
theorem lk_X_195 : Jvm.Cond.methodLinkNest "IndependenceRows" (195 : Nat) ({ cls := "IndependenceRows$Margin", name := "start", desc := "(I)V" } : Jvm.MethodName) "IndependenceRows" ∈ lw_tbl := am_tb2 113 (by rfl)
theorem im_N_start : Jvm.Cond.instanceMethod ({ cls := "IndependenceRows$Margin", name := "start", desc := "(I)V" } : Jvm.MethodName) ∈ lw_tbl := am_tb2 115 (by rfl)
theorem co_N_start : Jvm.Cond.code ({ cls := "IndependenceRows$Margin", name := "start", desc := "(I)V" } : Jvm.MethodName) prog_4_method_2_code (2 : Nat) (Option.none : Option Jvm.ClassFile.FieldType) ∈ lw_tbl := am_tb2 116 (by rfl)
theorem lk_N_19 : Jvm.Cond.methodLink "IndependenceRows$Margin" (19 : Nat) ({ cls := "java/util/Arrays", name := "fill", desc := "([JJ)V" } : Jvm.MethodName) ∈ lw_tbl := am_tb2 117 (by rfl)
theorem sm_A_fillJ : Jvm.Cond.static ({ cls := "java/util/Arrays", name := "fill", desc := "([JJ)V" } : Jvm.MethodName) ∈ lw_tbl := am_tb2 118 (by rfl)
theorem co_A_fillJ : Jvm.Cond.code ({ cls := "java/util/Arrays", name := "fill", desc := "([JJ)V" } : Jvm.MethodName) prog_11_method_101_code (5 : Nat) (Option.none : Option Jvm.ClassFile.FieldType) ∈ lw_tbl := am_tb2 119 (by rfl)
theorem lk_X_198 : Jvm.Cond.methodLinkNest "IndependenceRows" (198 : Nat) ({ cls := "IndependenceRows$Margin", name := "add", desc := "(IJ)V" } : Jvm.MethodName) "IndependenceRows" ∈ lw_tbl := am_tb2 120 (by rfl)
theorem im_N_add : Jvm.Cond.instanceMethod ({ cls := "IndependenceRows$Margin", name := "add", desc := "(IJ)V" } : Jvm.MethodName) ∈ lw_tbl := am_tb2 122 (by rfl)
theorem co_N_add : Jvm.Cond.code ({ cls := "IndependenceRows$Margin", name := "add", desc := "(IJ)V" } : Jvm.MethodName) prog_4_method_3_code (4 : Nat) (Option.none : Option Jvm.ClassFile.FieldType) ∈ lw_tbl := am_tb2 123 (by rfl)
theorem lk_X_202 : Jvm.Cond.methodLinkNest "IndependenceRows" (202 : Nat) ({ cls := "IndependenceRows$Margin", name := "sum", desc := "(I)J" } : Jvm.MethodName) "IndependenceRows" ∈ lw_tbl := am_tb2 124 (by rfl)
theorem im_N_sum : Jvm.Cond.instanceMethod ({ cls := "IndependenceRows$Margin", name := "sum", desc := "(I)J" } : Jvm.MethodName) ∈ lw_tbl := am_tb2 126 (by rfl)
theorem co_N_sum : Jvm.Cond.code ({ cls := "IndependenceRows$Margin", name := "sum", desc := "(I)J" } : Jvm.MethodName) prog_4_method_4_code (2 : Nat) (Option.some Jvm.ClassFile.FieldType.long) ∈ lw_tbl := am_tb2 127 (by rfl)
theorem lk_L_65 : Jvm.Cond.methodLink "IndependenceRowsLaw" (65 : Nat) ({ cls := "IndependenceRows", name := "differ", desc := "(III)I" } : Jvm.MethodName) ∈ lw_tbl := am_tb2 128 (by rfl)
theorem im_X_differ : Jvm.Cond.instanceMethod ({ cls := "IndependenceRows", name := "differ", desc := "(III)I" } : Jvm.MethodName) ∈ lw_tbl := am_tb2 129 (by rfl)
theorem se_X_differ : Jvm.Cond.selects "IndependenceRows" ({ cls := "IndependenceRows", name := "differ", desc := "(III)I" } : Jvm.MethodName) ({ cls := "IndependenceRows", name := "differ", desc := "(III)I" } : Jvm.MethodName) ∈ lw_tbl := am_tb2 130 (by rfl)
theorem co_X_differ : Jvm.Cond.code ({ cls := "IndependenceRows", name := "differ", desc := "(III)I" } : Jvm.MethodName) prog_1_method_14_code (4 : Nat) (Option.some Jvm.ClassFile.FieldType.int) ∈ lw_tbl := am_tb2 131 (by rfl)
theorem lk_L_69 : Jvm.Cond.methodLink "IndependenceRowsLaw" (69 : Nat) ({ cls := "IndependenceRows", name := "blanket", desc := "(I)I" } : Jvm.MethodName) ∈ lw_tbl := am_tb2 132 (by rfl)
theorem im_X_blanket : Jvm.Cond.instanceMethod ({ cls := "IndependenceRows", name := "blanket", desc := "(I)I" } : Jvm.MethodName) ∈ lw_tbl := am_tb2 133 (by rfl)
theorem se_X_blanket : Jvm.Cond.selects "IndependenceRows" ({ cls := "IndependenceRows", name := "blanket", desc := "(I)I" } : Jvm.MethodName) ({ cls := "IndependenceRows", name := "blanket", desc := "(I)I" } : Jvm.MethodName) ∈ lw_tbl := am_tb2 134 (by rfl)
theorem co_X_blanket : Jvm.Cond.code ({ cls := "IndependenceRows", name := "blanket", desc := "(I)I" } : Jvm.MethodName) prog_1_method_15_code (2 : Nat) (Option.some Jvm.ClassFile.FieldType.int) ∈ lw_tbl := am_tb2 135 (by rfl)
theorem lk_X_167 : Jvm.Cond.methodLink "IndependenceRows" (167 : Nat) ({ cls := "IndependenceRows", name := "fewest", desc := "(III)I" } : Jvm.MethodName) ∈ lw_tbl := am_tb2 136 (by rfl)
theorem im_X_fewest : Jvm.Cond.instanceMethod ({ cls := "IndependenceRows", name := "fewest", desc := "(III)I" } : Jvm.MethodName) ∈ lw_tbl := am_tb2 138 (by rfl)
theorem co_X_fewest : Jvm.Cond.code ({ cls := "IndependenceRows", name := "fewest", desc := "(III)I" } : Jvm.MethodName) prog_1_method_29_code (8 : Nat) (Option.some Jvm.ClassFile.FieldType.int) ∈ lw_tbl := am_tb2 139 (by rfl)
theorem lk_X_190 : Jvm.Cond.methodLink "IndependenceRows" (190 : Nat) ({ cls := "java/lang/Integer", name := "bitCount", desc := "(I)I" } : Jvm.MethodName) ∈ lw_tbl := am_tb2 140 (by rfl)
theorem lk_X_206 : Jvm.Cond.methodLinkNest "IndependenceRows" (206 : Nat) ({ cls := "IndependenceRows$Walks", name := "reached", desc := "(II)I" } : Jvm.MethodName) "IndependenceRows" ∈ lw_tbl := am_tb2 141 (by rfl)
theorem im_V_reached : Jvm.Cond.instanceMethod ({ cls := "IndependenceRows$Walks", name := "reached", desc := "(II)I" } : Jvm.MethodName) ∈ lw_tbl := am_tb2 143 (by rfl)
theorem co_V_reached : Jvm.Cond.code ({ cls := "IndependenceRows$Walks", name := "reached", desc := "(II)I" } : Jvm.MethodName) prog_6_method_5_code (4 : Nat) (Option.some Jvm.ClassFile.FieldType.int) ∈ lw_tbl := am_tb2 144 (by rfl)
theorem lk_L_74 : Jvm.Cond.methodLink "IndependenceRowsLaw" (74 : Nat) ({ cls := "IndependenceRows", name := "least", desc := "(II)I" } : Jvm.MethodName) ∈ lw_tbl := am_tb2 145 (by rfl)
theorem im_X_least : Jvm.Cond.instanceMethod ({ cls := "IndependenceRows", name := "least", desc := "(II)I" } : Jvm.MethodName) ∈ lw_tbl := am_tb2 146 (by rfl)
theorem se_X_least : Jvm.Cond.selects "IndependenceRows" ({ cls := "IndependenceRows", name := "least", desc := "(II)I" } : Jvm.MethodName) ({ cls := "IndependenceRows", name := "least", desc := "(II)I" } : Jvm.MethodName) ∈ lw_tbl := am_tb2 147 (by rfl)
theorem co_X_least : Jvm.Cond.code ({ cls := "IndependenceRows", name := "least", desc := "(II)I" } : Jvm.MethodName) prog_1_method_16_code (3 : Nat) (Option.some Jvm.ClassFile.FieldType.int) ∈ lw_tbl := am_tb2 148 (by rfl)
theorem lk_L_78 : Jvm.Cond.methodLink "IndependenceRowsLaw" (78 : Nat) ({ cls := "IndependenceRows", name := "enough", desc := "(III)I" } : Jvm.MethodName) ∈ lw_tbl := am_tb2 149 (by rfl)
theorem im_X_enough : Jvm.Cond.instanceMethod ({ cls := "IndependenceRows", name := "enough", desc := "(III)I" } : Jvm.MethodName) ∈ lw_tbl := am_tb2 150 (by rfl)
theorem se_X_enough : Jvm.Cond.selects "IndependenceRows" ({ cls := "IndependenceRows", name := "enough", desc := "(III)I" } : Jvm.MethodName) ({ cls := "IndependenceRows", name := "enough", desc := "(III)I" } : Jvm.MethodName) ∈ lw_tbl := am_tb2 151 (by rfl)
theorem co_X_enough : Jvm.Cond.code ({ cls := "IndependenceRows", name := "enough", desc := "(III)I" } : Jvm.MethodName) prog_1_method_17_code (4 : Nat) (Option.some Jvm.ClassFile.FieldType.int) ∈ lw_tbl := am_tb2 152 (by rfl)
theorem lk_L_82 : Jvm.Cond.methodLink "IndependenceRowsLaw" (82 : Nat) ({ cls := "IndependenceRows", name := "keep", desc := "()I" } : Jvm.MethodName) ∈ lw_tbl := am_tb2 153 (by rfl)
theorem im_X_keep : Jvm.Cond.instanceMethod ({ cls := "IndependenceRows", name := "keep", desc := "()I" } : Jvm.MethodName) ∈ lw_tbl := am_tb2 154 (by rfl)
theorem se_X_keep : Jvm.Cond.selects "IndependenceRows" ({ cls := "IndependenceRows", name := "keep", desc := "()I" } : Jvm.MethodName) ({ cls := "IndependenceRows", name := "keep", desc := "()I" } : Jvm.MethodName) ∈ lw_tbl := am_tb2 155 (by rfl)
theorem co_X_keep : Jvm.Cond.code ({ cls := "IndependenceRows", name := "keep", desc := "()I" } : Jvm.MethodName) prog_1_method_18_code (1 : Nat) (Option.some Jvm.ClassFile.FieldType.int) ∈ lw_tbl := am_tb2 156 (by rfl)
theorem lk_X_170 : Jvm.Cond.methodLinkNest "IndependenceRows" (170 : Nat) ({ cls := "IndependenceRows$Graph", name := "copy", desc := "(LIndependenceRows$Graph;)V" } : Jvm.MethodName) "IndependenceRows" ∈ lw_tbl := am_tb2 157 (by rfl)
theorem im_G_copy : Jvm.Cond.instanceMethod ({ cls := "IndependenceRows$Graph", name := "copy", desc := "(LIndependenceRows$Graph;)V" } : Jvm.MethodName) ∈ lw_tbl := am_tb2 159 (by rfl)
theorem co_G_copy : Jvm.Cond.code ({ cls := "IndependenceRows$Graph", name := "copy", desc := "(LIndependenceRows$Graph;)V" } : Jvm.MethodName) prog_2_method_3_code (2 : Nat) (Option.none : Option Jvm.ClassFile.FieldType) ∈ lw_tbl := am_tb2 160 (by rfl)
theorem lk_G_31 : Jvm.Cond.methodLink "IndependenceRows$Graph" (31 : Nat) ({ cls := "java/lang/System", name := "arraycopy", desc := "(Ljava/lang/Object;ILjava/lang/Object;II)V" } : Jvm.MethodName) ∈ lw_tbl := am_tb2 161 (by rfl)
theorem sm_S_arraycopy : Jvm.Cond.static ({ cls := "java/lang/System", name := "arraycopy", desc := "(Ljava/lang/Object;ILjava/lang/Object;II)V" } : Jvm.MethodName) ∈ lw_tbl := am_tb2 162 (by rfl)
theorem na_S_arraycopy : Jvm.Cond.native ({ cls := "java/lang/System", name := "arraycopy", desc := "(Ljava/lang/Object;ILjava/lang/Object;II)V" } : Jvm.MethodName) ∈ lw_tbl := am_tb2 163 (by rfl)
theorem lk_L_86 : Jvm.Cond.methodLink "IndependenceRowsLaw" (86 : Nat) ({ cls := "IndependenceRows", name := "alike", desc := "()I" } : Jvm.MethodName) ∈ lw_tbl := am_tb2 164 (by rfl)
theorem im_X_alike : Jvm.Cond.instanceMethod ({ cls := "IndependenceRows", name := "alike", desc := "()I" } : Jvm.MethodName) ∈ lw_tbl := am_tb2 165 (by rfl)
theorem se_X_alike : Jvm.Cond.selects "IndependenceRows" ({ cls := "IndependenceRows", name := "alike", desc := "()I" } : Jvm.MethodName) ({ cls := "IndependenceRows", name := "alike", desc := "()I" } : Jvm.MethodName) ∈ lw_tbl := am_tb2 166 (by rfl)
theorem co_X_alike : Jvm.Cond.code ({ cls := "IndependenceRows", name := "alike", desc := "()I" } : Jvm.MethodName) prog_1_method_19_code (1 : Nat) (Option.some Jvm.ClassFile.FieldType.int) ∈ lw_tbl := am_tb2 167 (by rfl)
theorem lk_X_174 : Jvm.Cond.methodLinkNest "IndependenceRows" (174 : Nat) ({ cls := "IndependenceRows$Graph", name := "tellsTheSameAs", desc := "(LIndependenceRows$Graph;)Z" } : Jvm.MethodName) "IndependenceRows" ∈ lw_tbl := am_tb2 168 (by rfl)
theorem im_G_tellsTheSameAs : Jvm.Cond.instanceMethod ({ cls := "IndependenceRows$Graph", name := "tellsTheSameAs", desc := "(LIndependenceRows$Graph;)Z" } : Jvm.MethodName) ∈ lw_tbl := am_tb2 170 (by rfl)
theorem co_G_tellsTheSameAs : Jvm.Cond.code ({ cls := "IndependenceRows$Graph", name := "tellsTheSameAs", desc := "(LIndependenceRows$Graph;)Z" } : Jvm.MethodName) prog_2_method_10_code (4 : Nat) (Option.some Jvm.ClassFile.FieldType.boolean) ∈ lw_tbl := am_tb2 171 (by rfl)
theorem lk_G_50 : Jvm.Cond.methodLink "IndependenceRows$Graph" (50 : Nat) ({ cls := "IndependenceRows$Graph", name := "neighbours", desc := "(I)I" } : Jvm.MethodName) ∈ lw_tbl := am_tb2 172 (by rfl)
theorem lk_G_53 : Jvm.Cond.methodLink "IndependenceRows$Graph" (53 : Nat) ({ cls := "IndependenceRows$Graph", name := "strangers", desc := "(II)I" } : Jvm.MethodName) ∈ lw_tbl := am_tb2 173 (by rfl)
theorem im_G_strangers : Jvm.Cond.instanceMethod ({ cls := "IndependenceRows$Graph", name := "strangers", desc := "(II)I" } : Jvm.MethodName) ∈ lw_tbl := am_tb2 175 (by rfl)
theorem co_G_strangers : Jvm.Cond.code ({ cls := "IndependenceRows$Graph", name := "strangers", desc := "(II)I" } : Jvm.MethodName) prog_2_method_9_code (3 : Nat) (Option.some Jvm.ClassFile.FieldType.int) ∈ lw_tbl := am_tb2 176 (by rfl)
theorem lk_G_46 : Jvm.Cond.methodLinkNest "IndependenceRows$Graph" (46 : Nat) ({ cls := "IndependenceRows", name := "has", desc := "(II)Z" } : Jvm.MethodName) "IndependenceRows" ∈ lw_tbl := am_tb2 177 (by rfl)
theorem lk_L_90 : Jvm.Cond.methodLink "IndependenceRowsLaw" (90 : Nat) ({ cls := "IndependenceRows", name := "settled", desc := "(II)I" } : Jvm.MethodName) ∈ lw_tbl := am_tb2 178 (by rfl)
theorem im_X_settled : Jvm.Cond.instanceMethod ({ cls := "IndependenceRows", name := "settled", desc := "(II)I" } : Jvm.MethodName) ∈ lw_tbl := am_tb2 179 (by rfl)
theorem se_X_settled : Jvm.Cond.selects "IndependenceRows" ({ cls := "IndependenceRows", name := "settled", desc := "(II)I" } : Jvm.MethodName) ({ cls := "IndependenceRows", name := "settled", desc := "(II)I" } : Jvm.MethodName) ∈ lw_tbl := am_tb2 180 (by rfl)
theorem co_X_settled : Jvm.Cond.code ({ cls := "IndependenceRows", name := "settled", desc := "(II)I" } : Jvm.MethodName) prog_1_method_20_code (3 : Nat) (Option.some Jvm.ClassFile.FieldType.int) ∈ lw_tbl := am_tb2 181 (by rfl)
theorem lk_X_178 : Jvm.Cond.methodLinkNest "IndependenceRows" (178 : Nat) ({ cls := "IndependenceRows$Kin", name := "explore", desc := "(LIndependenceRows$Graph;)V" } : Jvm.MethodName) "IndependenceRows" ∈ lw_tbl := am_tb2 182 (by rfl)
theorem im_K_explore : Jvm.Cond.instanceMethod ({ cls := "IndependenceRows$Kin", name := "explore", desc := "(LIndependenceRows$Graph;)V" } : Jvm.MethodName) ∈ lw_tbl := am_tb2 184 (by rfl)
theorem co_K_explore : Jvm.Cond.code ({ cls := "IndependenceRows$Kin", name := "explore", desc := "(LIndependenceRows$Graph;)V" } : Jvm.MethodName) prog_3_method_2_code (2 : Nat) (Option.none : Option Jvm.ClassFile.FieldType) ∈ lw_tbl := am_tb2 185 (by rfl)
theorem lk_K_38 : Jvm.Cond.methodLinkNest "IndependenceRows$Kin" (38 : Nat) ({ cls := "IndependenceRows$Graph", name := "copy", desc := "(LIndependenceRows$Graph;)V" } : Jvm.MethodName) "IndependenceRows" ∈ lw_tbl := am_tb2 186 (by rfl)
theorem lk_K_42 : Jvm.Cond.methodLink "IndependenceRows$Kin" (42 : Nat) ({ cls := "IndependenceRows$Kin", name := "listArcs", desc := "()V" } : Jvm.MethodName) ∈ lw_tbl := am_tb2 187 (by rfl)
theorem im_K_listArcs : Jvm.Cond.instanceMethod ({ cls := "IndependenceRows$Kin", name := "listArcs", desc := "()V" } : Jvm.MethodName) ∈ lw_tbl := am_tb2 189 (by rfl)
theorem co_K_listArcs : Jvm.Cond.code ({ cls := "IndependenceRows$Kin", name := "listArcs", desc := "()V" } : Jvm.MethodName) prog_3_method_3_code (3 : Nat) (Option.none : Option Jvm.ClassFile.FieldType) ∈ lw_tbl := am_tb2 190 (by rfl)
theorem lk_K_61 : Jvm.Cond.methodLinkNest "IndependenceRows$Kin" (61 : Nat) ({ cls := "IndependenceRows", name := "has", desc := "(II)Z" } : Jvm.MethodName) "IndependenceRows" ∈ lw_tbl := am_tb2 191 (by rfl)
theorem lk_K_45 : Jvm.Cond.methodLink "IndependenceRows$Kin" (45 : Nat) ({ cls := "java/util/Arrays", name := "fill", desc := "([II)V" } : Jvm.MethodName) ∈ lw_tbl := am_tb2 192 (by rfl)
theorem lk_K_51 : Jvm.Cond.methodLink "IndependenceRows$Kin" (51 : Nat) ({ cls := "IndependenceRows$Kin", name := "direct", desc := "(II)V" } : Jvm.MethodName) ∈ lw_tbl := am_tb2 193 (by rfl)
theorem im_K_direct : Jvm.Cond.instanceMethod ({ cls := "IndependenceRows$Kin", name := "direct", desc := "(II)V" } : Jvm.MethodName) ∈ lw_tbl := am_tb2 195 (by rfl)
theorem co_K_direct : Jvm.Cond.code ({ cls := "IndependenceRows$Kin", name := "direct", desc := "(II)V" } : Jvm.MethodName) prog_3_method_5_code (5 : Nat) (Option.none : Option Jvm.ClassFile.FieldType) ∈ lw_tbl := am_tb2 196 (by rfl)
theorem lk_K_65 : Jvm.Cond.methodLink "IndependenceRows$Kin" (65 : Nat) ({ cls := "IndependenceRows$Kin", name := "directOne", desc := "(IIII)V" } : Jvm.MethodName) ∈ lw_tbl := am_tb2 197 (by rfl)
theorem im_K_directOne : Jvm.Cond.instanceMethod ({ cls := "IndependenceRows$Kin", name := "directOne", desc := "(IIII)V" } : Jvm.MethodName) ∈ lw_tbl := am_tb2 199 (by rfl)
theorem co_K_directOne : Jvm.Cond.code ({ cls := "IndependenceRows$Kin", name := "directOne", desc := "(IIII)V" } : Jvm.MethodName) prog_3_method_6_code (5 : Nat) (Option.none : Option Jvm.ClassFile.FieldType) ∈ lw_tbl := am_tb2 200 (by rfl)
theorem lk_K_77 : Jvm.Cond.methodLink "IndependenceRows$Kin" (77 : Nat) ({ cls := "IndependenceRows$Kin", name := "meetsAsFirst", desc := "(II)Z" } : Jvm.MethodName) ∈ lw_tbl := am_tb2 201 (by rfl)
theorem im_K_meetsAsFirst : Jvm.Cond.instanceMethod ({ cls := "IndependenceRows$Kin", name := "meetsAsFirst", desc := "(II)Z" } : Jvm.MethodName) ∈ lw_tbl := am_tb2 203 (by rfl)
theorem co_K_meetsAsFirst : Jvm.Cond.code ({ cls := "IndependenceRows$Kin", name := "meetsAsFirst", desc := "(II)Z" } : Jvm.MethodName) prog_3_method_7_code (4 : Nat) (Option.some Jvm.ClassFile.FieldType.boolean) ∈ lw_tbl := am_tb2 204 (by rfl)
theorem lk_K_84 : Jvm.Cond.methodLinkNest "IndependenceRows$Kin" (84 : Nat) ({ cls := "IndependenceRows$Graph", name := "neighbours", desc := "(I)I" } : Jvm.MethodName) "IndependenceRows" ∈ lw_tbl := am_tb2 205 (by rfl)
theorem lk_K_69 : Jvm.Cond.methodLinkNest "IndependenceRows$Kin" (69 : Nat) ({ cls := "IndependenceRows$Graph", name := "strangers", desc := "(II)I" } : Jvm.MethodName) "IndependenceRows" ∈ lw_tbl := am_tb2 206 (by rfl)
theorem lk_K_73 : Jvm.Cond.methodLinkNest "IndependenceRows$Kin" (73 : Nat) ({ cls := "IndependenceRows", name := "bit", desc := "(I)I" } : Jvm.MethodName) "IndependenceRows" ∈ lw_tbl := am_tb2 207 (by rfl)
theorem lk_K_80 : Jvm.Cond.methodLinkNest "IndependenceRows$Kin" (80 : Nat) ({ cls := "IndependenceRows", name := "closure", desc := "([II)I" } : Jvm.MethodName) "IndependenceRows" ∈ lw_tbl := am_tb2 208 (by rfl)
theorem lk_X_181 : Jvm.Cond.methodLinkNest "IndependenceRows" (181 : Nat) ({ cls := "IndependenceRows$Kin", name := "isTurned", desc := "(II)Z" } : Jvm.MethodName) "IndependenceRows" ∈ lw_tbl := am_tb2 209 (by rfl)
theorem im_K_isTurned : Jvm.Cond.instanceMethod ({ cls := "IndependenceRows$Kin", name := "isTurned", desc := "(II)Z" } : Jvm.MethodName) ∈ lw_tbl := am_tb2 211 (by rfl)
theorem co_K_isTurned : Jvm.Cond.code ({ cls := "IndependenceRows$Kin", name := "isTurned", desc := "(II)Z" } : Jvm.MethodName) prog_3_method_4_code (4 : Nat) (Option.some Jvm.ClassFile.FieldType.boolean) ∈ lw_tbl := am_tb2 212 (by rfl)
theorem lk_L_94 : Jvm.Cond.methodLink "IndependenceRowsLaw" (94 : Nat) ({ cls := "IndependenceRows", name := "family", desc := "()I" } : Jvm.MethodName) ∈ lw_tbl := am_tb2 213 (by rfl)
theorem im_X_family : Jvm.Cond.instanceMethod ({ cls := "IndependenceRows", name := "family", desc := "()I" } : Jvm.MethodName) ∈ lw_tbl := am_tb2 214 (by rfl)
theorem se_X_family : Jvm.Cond.selects "IndependenceRows" ({ cls := "IndependenceRows", name := "family", desc := "()I" } : Jvm.MethodName) ({ cls := "IndependenceRows", name := "family", desc := "()I" } : Jvm.MethodName) ∈ lw_tbl := am_tb2 215 (by rfl)
theorem co_X_family : Jvm.Cond.code ({ cls := "IndependenceRows", name := "family", desc := "()I" } : Jvm.MethodName) prog_1_method_21_code (1 : Nat) (Option.some Jvm.ClassFile.FieldType.int) ∈ lw_tbl := am_tb2 216 (by rfl)
theorem lk_L_98 : Jvm.Cond.methodLink "IndependenceRowsLaw" (98 : Nat) ({ cls := "IndependenceRows", name := "count", desc := "(I)I" } : Jvm.MethodName) ∈ lw_tbl := am_tb2 217 (by rfl)
theorem im_X_count : Jvm.Cond.instanceMethod ({ cls := "IndependenceRows", name := "count", desc := "(I)I" } : Jvm.MethodName) ∈ lw_tbl := am_tb2 218 (by rfl)
theorem se_X_count : Jvm.Cond.selects "IndependenceRows" ({ cls := "IndependenceRows", name := "count", desc := "(I)I" } : Jvm.MethodName) ({ cls := "IndependenceRows", name := "count", desc := "(I)I" } : Jvm.MethodName) ∈ lw_tbl := am_tb2 219 (by rfl)
theorem co_X_count : Jvm.Cond.code ({ cls := "IndependenceRows", name := "count", desc := "(I)I" } : Jvm.MethodName) prog_1_method_22_code (2 : Nat) (Option.some Jvm.ClassFile.FieldType.int) ∈ lw_tbl := am_tb2 220 (by rfl)
theorem ck_L_10 : Jvm.Cond.classLink "IndependenceRowsLaw" (10 : Nat) "IndependenceRowsModel" ∈ lw_tbl := am_tb2 221 (by rfl)
theorem ins_Y : Jvm.Cond.instantiable "IndependenceRowsModel" (23 : Nat) ∈ lw_tbl := am_tb2 222 (by rfl)
theorem lk_L_12 : Jvm.Cond.methodLink "IndependenceRowsLaw" (12 : Nat) ({ cls := "IndependenceRowsModel", name := "<init>", desc := "()V" } : Jvm.MethodName) ∈ lw_tbl := am_tb2 223 (by rfl)
theorem im_Y_init : Jvm.Cond.instanceMethod ({ cls := "IndependenceRowsModel", name := "<init>", desc := "()V" } : Jvm.MethodName) ∈ lw_tbl := am_tb2 224 (by rfl)
theorem co_Y_init : Jvm.Cond.code ({ cls := "IndependenceRowsModel", name := "<init>", desc := "()V" } : Jvm.MethodName) prog_8_method_1_code (1 : Nat) (Option.none : Option Jvm.ClassFile.FieldType) ∈ lw_tbl := am_tb2 225 (by rfl)
theorem lk_Y_1 : Jvm.Cond.methodLink "IndependenceRowsModel" (1 : Nat) ({ cls := "java/lang/Object", name := "<init>", desc := "()V" } : Jvm.MethodName) ∈ lw_tbl := am_tb2 226 (by rfl)
theorem lk_Y_60 : Jvm.Cond.methodLink "IndependenceRowsModel" (60 : Nat) ({ cls := "IndependenceRowsModel", name := "begin", desc := "()V" } : Jvm.MethodName) ∈ lw_tbl := am_tb2 227 (by rfl)
theorem im_Y_begin : Jvm.Cond.instanceMethod ({ cls := "IndependenceRowsModel", name := "begin", desc := "()V" } : Jvm.MethodName) ∈ lw_tbl := am_tb2 229 (by rfl)
theorem co_Y_begin : Jvm.Cond.code ({ cls := "IndependenceRowsModel", name := "begin", desc := "()V" } : Jvm.MethodName) prog_8_method_2_code (2 : Nat) (Option.none : Option Jvm.ClassFile.FieldType) ∈ lw_tbl := am_tb2 230 (by rfl)
theorem fk_Y_63 : Jvm.Cond.fieldLink "IndependenceRowsModel" (63 : Nat) "IndependenceRowsModel" "places" "I" ∈ lw_tbl := am_tb2 231 (by rfl)
theorem fk_Y_67 : Jvm.Cond.fieldLink "IndependenceRowsModel" (67 : Nat) "IndependenceRowsModel" "arcs" "I" ∈ lw_tbl := am_tb2 232 (by rfl)
theorem fk_Y_7 : Jvm.Cond.fieldLink "IndependenceRowsModel" (7 : Nat) "IndependenceRowsModel" "parents" "[I" ∈ lw_tbl := am_tb2 233 (by rfl)
theorem fk_Y_13 : Jvm.Cond.fieldLink "IndependenceRowsModel" (13 : Nat) "IndependenceRowsModel" "held" "[I" ∈ lw_tbl := am_tb2 234 (by rfl)
theorem fk_Y_16 : Jvm.Cond.fieldLink "IndependenceRowsModel" (16 : Nat) "IndependenceRowsModel" "odds" "[I" ∈ lw_tbl := am_tb2 235 (by rfl)
theorem fk_Y_70 : Jvm.Cond.fieldLink "IndependenceRowsModel" (70 : Nat) "IndependenceRowsModel" "isKept" "Z" ∈ lw_tbl := am_tb2 236 (by rfl)
theorem fk_Y_132 : Jvm.Cond.fieldLink "IndependenceRowsModel" (132 : Nat) "IndependenceRowsModel" "keptPlaces" "I" ∈ lw_tbl := am_tb2 237 (by rfl)
theorem fk_Y_19 : Jvm.Cond.fieldLink "IndependenceRowsModel" (19 : Nat) "IndependenceRowsModel" "kept" "[I" ∈ lw_tbl := am_tb2 238 (by rfl)
theorem fk_Y_74 : Jvm.Cond.fieldLink "IndependenceRowsModel" (74 : Nat) "IndependenceRowsModel" "isCounted" "Z" ∈ lw_tbl := am_tb2 239 (by rfl)
theorem fk_Y_146 : Jvm.Cond.fieldLink "IndependenceRowsModel" (146 : Nat) "IndependenceRowsModel" "familySize" "I" ∈ lw_tbl := am_tb3 0 (by rfl)
theorem fk_Y_149 : Jvm.Cond.fieldLink "IndependenceRowsModel" (149 : Nat) "IndependenceRowsModel" "settledMask" "I" ∈ lw_tbl := am_tb3 1 (by rfl)
theorem fk_Y_22 : Jvm.Cond.fieldLink "IndependenceRowsModel" (22 : Nat) "IndependenceRowsModel" "counted" "[I" ∈ lw_tbl := am_tb3 2 (by rfl)
theorem fk_Y_25 : Jvm.Cond.fieldLink "IndependenceRowsModel" (25 : Nat) "IndependenceRowsModel" "children" "[I" ∈ lw_tbl := am_tb3 3 (by rfl)
theorem fk_Y_28 : Jvm.Cond.fieldLink "IndependenceRowsModel" (28 : Nat) "IndependenceRowsModel" "near" "[I" ∈ lw_tbl := am_tb3 4 (by rfl)
theorem fk_Y_31 : Jvm.Cond.fieldLink "IndependenceRowsModel" (31 : Nat) "IndependenceRowsModel" "layer" "[I" ∈ lw_tbl := am_tb3 5 (by rfl)
theorem fk_Y_34 : Jvm.Cond.fieldLink "IndependenceRowsModel" (34 : Nat) "IndependenceRowsModel" "nextLayer" "[I" ∈ lw_tbl := am_tb3 6 (by rfl)
theorem fk_Y_37 : Jvm.Cond.fieldLink "IndependenceRowsModel" (37 : Nat) "IndependenceRowsModel" "met" "[I" ∈ lw_tbl := am_tb3 7 (by rfl)
theorem fk_Y_40 : Jvm.Cond.fieldLink "IndependenceRowsModel" (40 : Nat) "IndependenceRowsModel" "weights" "[J" ∈ lw_tbl := am_tb3 8 (by rfl)
theorem fk_Y_44 : Jvm.Cond.fieldLink "IndependenceRowsModel" (44 : Nat) "IndependenceRowsModel" "sums" "[J" ∈ lw_tbl := am_tb3 9 (by rfl)
theorem fk_Y_47 : Jvm.Cond.fieldLink "IndependenceRowsModel" (47 : Nat) "IndependenceRowsModel" "separates" "[Z" ∈ lw_tbl := am_tb3 10 (by rfl)
theorem fk_Y_51 : Jvm.Cond.fieldLink "IndependenceRowsModel" (51 : Nat) "IndependenceRowsModel" "arcFrom" "[I" ∈ lw_tbl := am_tb3 11 (by rfl)
theorem fk_Y_54 : Jvm.Cond.fieldLink "IndependenceRowsModel" (54 : Nat) "IndependenceRowsModel" "arcTo" "[I" ∈ lw_tbl := am_tb3 12 (by rfl)
theorem fk_Y_57 : Jvm.Cond.fieldLink "IndependenceRowsModel" (57 : Nat) "IndependenceRowsModel" "turned" "[I" ∈ lw_tbl := am_tb3 13 (by rfl)
theorem arr_boolean : Jvm.Cond.arrayClass Jvm.ClassFile.FieldType.boolean ∈ lw_tbl := am_tb3 61 (by rfl)
theorem lk_L_17 : Jvm.Cond.methodLink "IndependenceRowsLaw" (17 : Nat) ({ cls := "IndependenceRowsModel", name := "clear", desc := "()I" } : Jvm.MethodName) ∈ lw_tbl := am_tb3 62 (by rfl)
theorem im_Y_clear : Jvm.Cond.instanceMethod ({ cls := "IndependenceRowsModel", name := "clear", desc := "()I" } : Jvm.MethodName) ∈ lw_tbl := am_tb3 63 (by rfl)
theorem se_Y_clear : Jvm.Cond.selects "IndependenceRowsModel" ({ cls := "IndependenceRowsModel", name := "clear", desc := "()I" } : Jvm.MethodName) ({ cls := "IndependenceRowsModel", name := "clear", desc := "()I" } : Jvm.MethodName) ∈ lw_tbl := am_tb3 64 (by rfl)
theorem co_Y_clear : Jvm.Cond.code ({ cls := "IndependenceRowsModel", name := "clear", desc := "()I" } : Jvm.MethodName) prog_8_method_3_code (2 : Nat) (Option.some Jvm.ClassFile.FieldType.int) ∈ lw_tbl := am_tb3 65 (by rfl)
theorem lk_L_21 : Jvm.Cond.methodLink "IndependenceRowsLaw" (21 : Nat) ({ cls := "IndependenceRowsModel", name := "place", desc := "()I" } : Jvm.MethodName) ∈ lw_tbl := am_tb3 66 (by rfl)
theorem im_Y_place : Jvm.Cond.instanceMethod ({ cls := "IndependenceRowsModel", name := "place", desc := "()I" } : Jvm.MethodName) ∈ lw_tbl := am_tb3 67 (by rfl)
theorem se_Y_place : Jvm.Cond.selects "IndependenceRowsModel" ({ cls := "IndependenceRowsModel", name := "place", desc := "()I" } : Jvm.MethodName) ({ cls := "IndependenceRowsModel", name := "place", desc := "()I" } : Jvm.MethodName) ∈ lw_tbl := am_tb3 68 (by rfl)
theorem co_Y_place : Jvm.Cond.code ({ cls := "IndependenceRowsModel", name := "place", desc := "()I" } : Jvm.MethodName) prog_8_method_9_code (2 : Nat) (Option.some Jvm.ClassFile.FieldType.int) ∈ lw_tbl := am_tb3 69 (by rfl)
theorem lk_Y_84 : Jvm.Cond.methodLink "IndependenceRowsModel" (84 : Nat) ({ cls := "IndependenceRowsModel", name := "evenOdds", desc := "(I)V" } : Jvm.MethodName) ∈ lw_tbl := am_tb3 70 (by rfl)
theorem im_Y_evenOdds : Jvm.Cond.instanceMethod ({ cls := "IndependenceRowsModel", name := "evenOdds", desc := "(I)V" } : Jvm.MethodName) ∈ lw_tbl := am_tb3 72 (by rfl)
theorem co_Y_evenOdds : Jvm.Cond.code ({ cls := "IndependenceRowsModel", name := "evenOdds", desc := "(I)V" } : Jvm.MethodName) prog_8_method_8_code (3 : Nat) (Option.none : Option Jvm.ClassFile.FieldType) ∈ lw_tbl := am_tb3 73 (by rfl)
theorem lk_L_26 : Jvm.Cond.methodLink "IndependenceRowsLaw" (26 : Nat) ({ cls := "IndependenceRowsModel", name := "arc", desc := "(II)I" } : Jvm.MethodName) ∈ lw_tbl := am_tb3 74 (by rfl)
theorem im_Y_arc : Jvm.Cond.instanceMethod ({ cls := "IndependenceRowsModel", name := "arc", desc := "(II)I" } : Jvm.MethodName) ∈ lw_tbl := am_tb3 75 (by rfl)
theorem se_Y_arc : Jvm.Cond.selects "IndependenceRowsModel" ({ cls := "IndependenceRowsModel", name := "arc", desc := "(II)I" } : Jvm.MethodName) ({ cls := "IndependenceRowsModel", name := "arc", desc := "(II)I" } : Jvm.MethodName) ∈ lw_tbl := am_tb3 76 (by rfl)
theorem co_Y_arc : Jvm.Cond.code ({ cls := "IndependenceRowsModel", name := "arc", desc := "(II)I" } : Jvm.MethodName) prog_8_method_11_code (3 : Nat) (Option.some Jvm.ClassFile.FieldType.int) ∈ lw_tbl := am_tb3 77 (by rfl)
theorem lk_Y_77 : Jvm.Cond.methodLink "IndependenceRowsModel" (77 : Nat) ({ cls := "IndependenceRowsModel", name := "isPlace", desc := "(I)Z" } : Jvm.MethodName) ∈ lw_tbl := am_tb3 78 (by rfl)
theorem im_Y_isPlace : Jvm.Cond.instanceMethod ({ cls := "IndependenceRowsModel", name := "isPlace", desc := "(I)Z" } : Jvm.MethodName) ∈ lw_tbl := am_tb3 80 (by rfl)
theorem co_Y_isPlace : Jvm.Cond.code ({ cls := "IndependenceRowsModel", name := "isPlace", desc := "(I)Z" } : Jvm.MethodName) prog_8_method_4_code (2 : Nat) (Option.some Jvm.ClassFile.FieldType.boolean) ∈ lw_tbl := am_tb3 81 (by rfl)
theorem lk_Y_88 : Jvm.Cond.methodLink "IndependenceRowsModel" (88 : Nat) ({ cls := "IndependenceRowsModel", name := "aboveOf", desc := "([II)I" } : Jvm.MethodName) ∈ lw_tbl := am_tb3 82 (by rfl)
theorem im_Y_aboveOf : Jvm.Cond.instanceMethod ({ cls := "IndependenceRowsModel", name := "aboveOf", desc := "([II)I" } : Jvm.MethodName) ∈ lw_tbl := am_tb3 84 (by rfl)
theorem co_Y_aboveOf : Jvm.Cond.code ({ cls := "IndependenceRowsModel", name := "aboveOf", desc := "([II)I" } : Jvm.MethodName) prog_8_method_10_code (6 : Nat) (Option.some Jvm.ClassFile.FieldType.int) ∈ lw_tbl := am_tb3 85 (by rfl)
theorem lk_L_30 : Jvm.Cond.methodLink "IndependenceRowsLaw" (30 : Nat) ({ cls := "IndependenceRowsModel", name := "cut", desc := "(II)I" } : Jvm.MethodName) ∈ lw_tbl := am_tb3 86 (by rfl)
theorem im_Y_cut : Jvm.Cond.instanceMethod ({ cls := "IndependenceRowsModel", name := "cut", desc := "(II)I" } : Jvm.MethodName) ∈ lw_tbl := am_tb3 87 (by rfl)
theorem se_Y_cut : Jvm.Cond.selects "IndependenceRowsModel" ({ cls := "IndependenceRowsModel", name := "cut", desc := "(II)I" } : Jvm.MethodName) ({ cls := "IndependenceRowsModel", name := "cut", desc := "(II)I" } : Jvm.MethodName) ∈ lw_tbl := am_tb3 88 (by rfl)
theorem co_Y_cut : Jvm.Cond.code ({ cls := "IndependenceRowsModel", name := "cut", desc := "(II)I" } : Jvm.MethodName) prog_8_method_13_code (3 : Nat) (Option.some Jvm.ClassFile.FieldType.int) ∈ lw_tbl := am_tb3 89 (by rfl)
theorem lk_Y_92 : Jvm.Cond.methodLink "IndependenceRowsModel" (92 : Nat) ({ cls := "IndependenceRowsModel", name := "isArc", desc := "(II)Z" } : Jvm.MethodName) ∈ lw_tbl := am_tb3 90 (by rfl)
theorem im_Y_isArc : Jvm.Cond.instanceMethod ({ cls := "IndependenceRowsModel", name := "isArc", desc := "(II)Z" } : Jvm.MethodName) ∈ lw_tbl := am_tb3 92 (by rfl)
theorem co_Y_isArc : Jvm.Cond.code ({ cls := "IndependenceRowsModel", name := "isArc", desc := "(II)Z" } : Jvm.MethodName) prog_8_method_12_code (3 : Nat) (Option.some Jvm.ClassFile.FieldType.boolean) ∈ lw_tbl := am_tb3 93 (by rfl)
theorem lk_L_35 : Jvm.Cond.methodLink "IndependenceRowsLaw" (35 : Nat) ({ cls := "IndependenceRowsModel", name := "odds", desc := "(III)I" } : Jvm.MethodName) ∈ lw_tbl := am_tb3 94 (by rfl)
theorem im_Y_odds : Jvm.Cond.instanceMethod ({ cls := "IndependenceRowsModel", name := "odds", desc := "(III)I" } : Jvm.MethodName) ∈ lw_tbl := am_tb3 95 (by rfl)
theorem se_Y_odds : Jvm.Cond.selects "IndependenceRowsModel" ({ cls := "IndependenceRowsModel", name := "odds", desc := "(III)I" } : Jvm.MethodName) ({ cls := "IndependenceRowsModel", name := "odds", desc := "(III)I" } : Jvm.MethodName) ∈ lw_tbl := am_tb3 96 (by rfl)
theorem co_Y_odds : Jvm.Cond.code ({ cls := "IndependenceRowsModel", name := "odds", desc := "(III)I" } : Jvm.MethodName) prog_8_method_15_code (5 : Nat) (Option.some Jvm.ClassFile.FieldType.int) ∈ lw_tbl := am_tb3 97 (by rfl)
theorem lk_Y_100 : Jvm.Cond.methodLink "IndependenceRowsModel" (100 : Nat) ({ cls := "IndependenceRowsModel", name := "isRow", desc := "(II)Z" } : Jvm.MethodName) ∈ lw_tbl := am_tb3 98 (by rfl)
theorem im_Y_isRow : Jvm.Cond.instanceMethod ({ cls := "IndependenceRowsModel", name := "isRow", desc := "(II)Z" } : Jvm.MethodName) ∈ lw_tbl := am_tb3 100 (by rfl)
theorem co_Y_isRow : Jvm.Cond.code ({ cls := "IndependenceRowsModel", name := "isRow", desc := "(II)Z" } : Jvm.MethodName) prog_8_method_14_code (3 : Nat) (Option.some Jvm.ClassFile.FieldType.boolean) ∈ lw_tbl := am_tb3 101 (by rfl)
theorem lk_Y_96 : Jvm.Cond.methodLink "IndependenceRowsModel" (96 : Nat) ({ cls := "IndependenceRowsModel", name := "many", desc := "(I)I" } : Jvm.MethodName) ∈ lw_tbl := am_tb3 102 (by rfl)
theorem sm_Y_many : Jvm.Cond.static ({ cls := "IndependenceRowsModel", name := "many", desc := "(I)I" } : Jvm.MethodName) ∈ lw_tbl := am_tb3 103 (by rfl)
theorem co_Y_many : Jvm.Cond.code ({ cls := "IndependenceRowsModel", name := "many", desc := "(I)I" } : Jvm.MethodName) prog_8_method_7_code (3 : Nat) (Option.some Jvm.ClassFile.FieldType.int) ∈ lw_tbl := am_tb3 104 (by rfl)
theorem lk_L_39 : Jvm.Cond.methodLink "IndependenceRowsLaw" (39 : Nat) ({ cls := "IndependenceRowsModel", name := "hold", desc := "(II)I" } : Jvm.MethodName) ∈ lw_tbl := am_tb3 105 (by rfl)
theorem im_Y_hold : Jvm.Cond.instanceMethod ({ cls := "IndependenceRowsModel", name := "hold", desc := "(II)I" } : Jvm.MethodName) ∈ lw_tbl := am_tb3 106 (by rfl)
theorem se_Y_hold : Jvm.Cond.selects "IndependenceRowsModel" ({ cls := "IndependenceRowsModel", name := "hold", desc := "(II)I" } : Jvm.MethodName) ({ cls := "IndependenceRowsModel", name := "hold", desc := "(II)I" } : Jvm.MethodName) ∈ lw_tbl := am_tb3 107 (by rfl)
theorem co_Y_hold : Jvm.Cond.code ({ cls := "IndependenceRowsModel", name := "hold", desc := "(II)I" } : Jvm.MethodName) prog_8_method_16_code (4 : Nat) (Option.some Jvm.ClassFile.FieldType.int) ∈ lw_tbl := am_tb3 108 (by rfl)
theorem lk_L_43 : Jvm.Cond.methodLink "IndependenceRowsLaw" (43 : Nat) ({ cls := "IndependenceRowsModel", name := "told", desc := "(II)I" } : Jvm.MethodName) ∈ lw_tbl := am_tb3 109 (by rfl)
theorem im_Y_told : Jvm.Cond.instanceMethod ({ cls := "IndependenceRowsModel", name := "told", desc := "(II)I" } : Jvm.MethodName) ∈ lw_tbl := am_tb3 110 (by rfl)
theorem se_Y_told : Jvm.Cond.selects "IndependenceRowsModel" ({ cls := "IndependenceRowsModel", name := "told", desc := "(II)I" } : Jvm.MethodName) ({ cls := "IndependenceRowsModel", name := "told", desc := "(II)I" } : Jvm.MethodName) ∈ lw_tbl := am_tb3 111 (by rfl)
theorem co_Y_told : Jvm.Cond.code ({ cls := "IndependenceRowsModel", name := "told", desc := "(II)I" } : Jvm.MethodName) prog_8_method_17_code (3 : Nat) (Option.some Jvm.ClassFile.FieldType.int) ∈ lw_tbl := am_tb3 112 (by rfl)
theorem lk_L_47 : Jvm.Cond.methodLink "IndependenceRowsLaw" (47 : Nat) ({ cls := "IndependenceRowsModel", name := "of", desc := "(II)I" } : Jvm.MethodName) ∈ lw_tbl := am_tb3 113 (by rfl)
theorem im_Y_of : Jvm.Cond.instanceMethod ({ cls := "IndependenceRowsModel", name := "of", desc := "(II)I" } : Jvm.MethodName) ∈ lw_tbl := am_tb3 114 (by rfl)
theorem se_Y_of : Jvm.Cond.selects "IndependenceRowsModel" ({ cls := "IndependenceRowsModel", name := "of", desc := "(II)I" } : Jvm.MethodName) ({ cls := "IndependenceRowsModel", name := "of", desc := "(II)I" } : Jvm.MethodName) ∈ lw_tbl := am_tb3 115 (by rfl)
theorem co_Y_of : Jvm.Cond.code ({ cls := "IndependenceRowsModel", name := "of", desc := "(II)I" } : Jvm.MethodName) prog_8_method_20_code (5 : Nat) (Option.some Jvm.ClassFile.FieldType.int) ∈ lw_tbl := am_tb3 116 (by rfl)
theorem lk_Y_103 : Jvm.Cond.methodLink "IndependenceRowsModel" (103 : Nat) ({ cls := "IndependenceRowsModel", name := "countArcs", desc := "(I)V" } : Jvm.MethodName) ∈ lw_tbl := am_tb3 117 (by rfl)
theorem im_Y_countArcs : Jvm.Cond.instanceMethod ({ cls := "IndependenceRowsModel", name := "countArcs", desc := "(I)V" } : Jvm.MethodName) ∈ lw_tbl := am_tb3 119 (by rfl)
theorem co_Y_countArcs : Jvm.Cond.code ({ cls := "IndependenceRowsModel", name := "countArcs", desc := "(I)V" } : Jvm.MethodName) prog_8_method_18_code (4 : Nat) (Option.none : Option Jvm.ClassFile.FieldType) ∈ lw_tbl := am_tb3 120 (by rfl)
theorem lk_Y_106 : Jvm.Cond.methodLink "IndependenceRowsModel" (106 : Nat) ({ cls := "IndependenceRowsModel", name := "belowOf", desc := "(I)I" } : Jvm.MethodName) ∈ lw_tbl := am_tb3 121 (by rfl)
theorem im_Y_belowOf : Jvm.Cond.instanceMethod ({ cls := "IndependenceRowsModel", name := "belowOf", desc := "(I)I" } : Jvm.MethodName) ∈ lw_tbl := am_tb3 123 (by rfl)
theorem co_Y_belowOf : Jvm.Cond.code ({ cls := "IndependenceRowsModel", name := "belowOf", desc := "(I)I" } : Jvm.MethodName) prog_8_method_19_code (2 : Nat) (Option.some Jvm.ClassFile.FieldType.int) ∈ lw_tbl := am_tb3 124 (by rfl)
theorem lk_L_51 : Jvm.Cond.methodLink "IndependenceRowsLaw" (51 : Nat) ({ cls := "IndependenceRowsModel", name := "separated", desc := "(III)I" } : Jvm.MethodName) ∈ lw_tbl := am_tb3 125 (by rfl)
theorem im_Y_separated : Jvm.Cond.instanceMethod ({ cls := "IndependenceRowsModel", name := "separated", desc := "(III)I" } : Jvm.MethodName) ∈ lw_tbl := am_tb3 126 (by rfl)
theorem se_Y_separated : Jvm.Cond.selects "IndependenceRowsModel" ({ cls := "IndependenceRowsModel", name := "separated", desc := "(III)I" } : Jvm.MethodName) ({ cls := "IndependenceRowsModel", name := "separated", desc := "(III)I" } : Jvm.MethodName) ∈ lw_tbl := am_tb3 127 (by rfl)
theorem co_Y_separated : Jvm.Cond.code ({ cls := "IndependenceRowsModel", name := "separated", desc := "(III)I" } : Jvm.MethodName) prog_8_method_22_code (4 : Nat) (Option.some Jvm.ClassFile.FieldType.int) ∈ lw_tbl := am_tb3 128 (by rfl)
theorem lk_Y_109 : Jvm.Cond.methodLink "IndependenceRowsModel" (109 : Nat) ({ cls := "IndependenceRowsModel", name := "isAsked", desc := "(III)Z" } : Jvm.MethodName) ∈ lw_tbl := am_tb3 129 (by rfl)
theorem im_Y_isAsked : Jvm.Cond.instanceMethod ({ cls := "IndependenceRowsModel", name := "isAsked", desc := "(III)Z" } : Jvm.MethodName) ∈ lw_tbl := am_tb3 131 (by rfl)
theorem co_Y_isAsked : Jvm.Cond.code ({ cls := "IndependenceRowsModel", name := "isAsked", desc := "(III)Z" } : Jvm.MethodName) prog_8_method_6_code (4 : Nat) (Option.some Jvm.ClassFile.FieldType.boolean) ∈ lw_tbl := am_tb3 132 (by rfl)
theorem lk_Y_81 : Jvm.Cond.methodLink "IndependenceRowsModel" (81 : Nat) ({ cls := "IndependenceRowsModel", name := "isSet", desc := "(I)Z" } : Jvm.MethodName) ∈ lw_tbl := am_tb3 133 (by rfl)
theorem im_Y_isSet : Jvm.Cond.instanceMethod ({ cls := "IndependenceRowsModel", name := "isSet", desc := "(I)Z" } : Jvm.MethodName) ∈ lw_tbl := am_tb3 135 (by rfl)
theorem co_Y_isSet : Jvm.Cond.code ({ cls := "IndependenceRowsModel", name := "isSet", desc := "(I)Z" } : Jvm.MethodName) prog_8_method_5_code (2 : Nat) (Option.some Jvm.ClassFile.FieldType.boolean) ∈ lw_tbl := am_tb3 136 (by rfl)
theorem lk_Y_113 : Jvm.Cond.methodLink "IndependenceRowsModel" (113 : Nat) ({ cls := "IndependenceRowsModel", name := "isSeparated", desc := "([IIII)Z" } : Jvm.MethodName) ∈ lw_tbl := am_tb3 137 (by rfl)
theorem im_Y_isSeparated : Jvm.Cond.instanceMethod ({ cls := "IndependenceRowsModel", name := "isSeparated", desc := "([IIII)Z" } : Jvm.MethodName) ∈ lw_tbl := am_tb3 139 (by rfl)
theorem co_Y_isSeparated : Jvm.Cond.code ({ cls := "IndependenceRowsModel", name := "isSeparated", desc := "([IIII)Z" } : Jvm.MethodName) prog_8_method_21_code (9 : Nat) (Option.some Jvm.ClassFile.FieldType.boolean) ∈ lw_tbl := am_tb3 140 (by rfl)
theorem lk_L_55 : Jvm.Cond.methodLink "IndependenceRowsLaw" (55 : Nat) ({ cls := "IndependenceRowsModel", name := "walk", desc := "(III)I" } : Jvm.MethodName) ∈ lw_tbl := am_tb3 141 (by rfl)
theorem im_Y_walk : Jvm.Cond.instanceMethod ({ cls := "IndependenceRowsModel", name := "walk", desc := "(III)I" } : Jvm.MethodName) ∈ lw_tbl := am_tb3 142 (by rfl)
theorem se_Y_walk : Jvm.Cond.selects "IndependenceRowsModel" ({ cls := "IndependenceRowsModel", name := "walk", desc := "(III)I" } : Jvm.MethodName) ({ cls := "IndependenceRowsModel", name := "walk", desc := "(III)I" } : Jvm.MethodName) ∈ lw_tbl := am_tb3 143 (by rfl)
theorem co_Y_walk : Jvm.Cond.code ({ cls := "IndependenceRowsModel", name := "walk", desc := "(III)I" } : Jvm.MethodName) prog_8_method_23_code (10 : Nat) (Option.some Jvm.ClassFile.FieldType.int) ∈ lw_tbl := am_tb3 144 (by rfl)
theorem lk_Y_117 : Jvm.Cond.methodLink "IndependenceRowsModel" (117 : Nat) ({ cls := "IndependenceRowsModel", name := "children2", desc := "(II)I" } : Jvm.MethodName) ∈ lw_tbl := am_tb3 145 (by rfl)
theorem im_Y_children2 : Jvm.Cond.instanceMethod ({ cls := "IndependenceRowsModel", name := "children2", desc := "(II)I" } : Jvm.MethodName) ∈ lw_tbl := am_tb3 147 (by rfl)
theorem co_Y_children2 : Jvm.Cond.code ({ cls := "IndependenceRowsModel", name := "children2", desc := "(II)I" } : Jvm.MethodName) prog_8_method_24_code (3 : Nat) (Option.some Jvm.ClassFile.FieldType.int) ∈ lw_tbl := am_tb3 148 (by rfl)
theorem lk_L_60 : Jvm.Cond.methodLink "IndependenceRowsLaw" (60 : Nat) ({ cls := "IndependenceRowsModel", name := "weight", desc := "(II)J" } : Jvm.MethodName) ∈ lw_tbl := am_tb3 149 (by rfl)
theorem im_Y_weight : Jvm.Cond.instanceMethod ({ cls := "IndependenceRowsModel", name := "weight", desc := "(II)J" } : Jvm.MethodName) ∈ lw_tbl := am_tb3 150 (by rfl)
theorem se_Y_weight : Jvm.Cond.selects "IndependenceRowsModel" ({ cls := "IndependenceRowsModel", name := "weight", desc := "(II)J" } : Jvm.MethodName) ({ cls := "IndependenceRowsModel", name := "weight", desc := "(II)J" } : Jvm.MethodName) ∈ lw_tbl := am_tb3 151 (by rfl)
theorem co_Y_weight : Jvm.Cond.code ({ cls := "IndependenceRowsModel", name := "weight", desc := "(II)J" } : Jvm.MethodName) prog_8_method_26_code (6 : Nat) (Option.some Jvm.ClassFile.FieldType.long) ∈ lw_tbl := am_tb3 152 (by rfl)
theorem kk_Y_123 : Jvm.Cond.constantLong "IndependenceRowsModel" (123 : Nat) (-2 : Int64) ∈ lw_tbl := am_tb3 153 (by rfl)
theorem lk_Y_125 : Jvm.Cond.methodLink "IndependenceRowsModel" (125 : Nat) ({ cls := "IndependenceRowsModel", name := "weigh", desc := "()V" } : Jvm.MethodName) ∈ lw_tbl := am_tb3 154 (by rfl)
theorem im_Y_weigh : Jvm.Cond.instanceMethod ({ cls := "IndependenceRowsModel", name := "weigh", desc := "()V" } : Jvm.MethodName) ∈ lw_tbl := am_tb3 156 (by rfl)
theorem co_Y_weigh : Jvm.Cond.code ({ cls := "IndependenceRowsModel", name := "weigh", desc := "()V" } : Jvm.MethodName) prog_8_method_25_code (9 : Nat) (Option.none : Option Jvm.ClassFile.FieldType) ∈ lw_tbl := am_tb3 157 (by rfl)
theorem kk_Y_121 : Jvm.Cond.constantLong "IndependenceRowsModel" (121 : Nat) (8 : Int64) ∈ lw_tbl := am_tb3 158 (by rfl)
theorem lk_L_64 : Jvm.Cond.methodLink "IndependenceRowsLaw" (64 : Nat) ({ cls := "IndependenceRowsModel", name := "independent", desc := "(III)I" } : Jvm.MethodName) ∈ lw_tbl := am_tb3 159 (by rfl)
theorem im_Y_independent : Jvm.Cond.instanceMethod ({ cls := "IndependenceRowsModel", name := "independent", desc := "(III)I" } : Jvm.MethodName) ∈ lw_tbl := am_tb3 160 (by rfl)
theorem se_Y_independent : Jvm.Cond.selects "IndependenceRowsModel" ({ cls := "IndependenceRowsModel", name := "independent", desc := "(III)I" } : Jvm.MethodName) ({ cls := "IndependenceRowsModel", name := "independent", desc := "(III)I" } : Jvm.MethodName) ∈ lw_tbl := am_tb3 161 (by rfl)
theorem co_Y_independent : Jvm.Cond.code ({ cls := "IndependenceRowsModel", name := "independent", desc := "(III)I" } : Jvm.MethodName) prog_8_method_28_code (4 : Nat) (Option.some Jvm.ClassFile.FieldType.int) ∈ lw_tbl := am_tb3 162 (by rfl)
theorem lk_Y_128 : Jvm.Cond.methodLink "IndependenceRowsModel" (128 : Nat) ({ cls := "IndependenceRowsModel", name := "hangs", desc := "(III)I" } : Jvm.MethodName) ∈ lw_tbl := am_tb3 163 (by rfl)
theorem im_Y_hangs : Jvm.Cond.instanceMethod ({ cls := "IndependenceRowsModel", name := "hangs", desc := "(III)I" } : Jvm.MethodName) ∈ lw_tbl := am_tb3 165 (by rfl)
theorem co_Y_hangs : Jvm.Cond.code ({ cls := "IndependenceRowsModel", name := "hangs", desc := "(III)I" } : Jvm.MethodName) prog_8_method_27_code (8 : Nat) (Option.some Jvm.ClassFile.FieldType.int) ∈ lw_tbl := am_tb3 166 (by rfl)
theorem lk_L_68 : Jvm.Cond.methodLink "IndependenceRowsLaw" (68 : Nat) ({ cls := "IndependenceRowsModel", name := "differ", desc := "(III)I" } : Jvm.MethodName) ∈ lw_tbl := am_tb3 167 (by rfl)
theorem im_Y_differ : Jvm.Cond.instanceMethod ({ cls := "IndependenceRowsModel", name := "differ", desc := "(III)I" } : Jvm.MethodName) ∈ lw_tbl := am_tb3 168 (by rfl)
theorem se_Y_differ : Jvm.Cond.selects "IndependenceRowsModel" ({ cls := "IndependenceRowsModel", name := "differ", desc := "(III)I" } : Jvm.MethodName) ({ cls := "IndependenceRowsModel", name := "differ", desc := "(III)I" } : Jvm.MethodName) ∈ lw_tbl := am_tb3 169 (by rfl)
theorem co_Y_differ : Jvm.Cond.code ({ cls := "IndependenceRowsModel", name := "differ", desc := "(III)I" } : Jvm.MethodName) prog_8_method_29_code (4 : Nat) (Option.some Jvm.ClassFile.FieldType.int) ∈ lw_tbl := am_tb3 170 (by rfl)
theorem lk_L_73 : Jvm.Cond.methodLink "IndependenceRowsLaw" (73 : Nat) ({ cls := "IndependenceRowsModel", name := "blanket", desc := "(I)I" } : Jvm.MethodName) ∈ lw_tbl := am_tb3 171 (by rfl)
theorem im_Y_blanket : Jvm.Cond.instanceMethod ({ cls := "IndependenceRowsModel", name := "blanket", desc := "(I)I" } : Jvm.MethodName) ∈ lw_tbl := am_tb3 172 (by rfl)
theorem se_Y_blanket : Jvm.Cond.selects "IndependenceRowsModel" ({ cls := "IndependenceRowsModel", name := "blanket", desc := "(I)I" } : Jvm.MethodName) ({ cls := "IndependenceRowsModel", name := "blanket", desc := "(I)I" } : Jvm.MethodName) ∈ lw_tbl := am_tb3 173 (by rfl)
theorem co_Y_blanket : Jvm.Cond.code ({ cls := "IndependenceRowsModel", name := "blanket", desc := "(I)I" } : Jvm.MethodName) prog_8_method_30_code (7 : Nat) (Option.some Jvm.ClassFile.FieldType.int) ∈ lw_tbl := am_tb3 174 (by rfl)
theorem lk_L_77 : Jvm.Cond.methodLink "IndependenceRowsLaw" (77 : Nat) ({ cls := "IndependenceRowsModel", name := "least", desc := "(II)I" } : Jvm.MethodName) ∈ lw_tbl := am_tb3 175 (by rfl)
theorem im_Y_least : Jvm.Cond.instanceMethod ({ cls := "IndependenceRowsModel", name := "least", desc := "(II)I" } : Jvm.MethodName) ∈ lw_tbl := am_tb3 176 (by rfl)
theorem se_Y_least : Jvm.Cond.selects "IndependenceRowsModel" ({ cls := "IndependenceRowsModel", name := "least", desc := "(II)I" } : Jvm.MethodName) ({ cls := "IndependenceRowsModel", name := "least", desc := "(II)I" } : Jvm.MethodName) ∈ lw_tbl := am_tb3 177 (by rfl)
theorem co_Y_least : Jvm.Cond.code ({ cls := "IndependenceRowsModel", name := "least", desc := "(II)I" } : Jvm.MethodName) prog_8_method_31_code (6 : Nat) (Option.some Jvm.ClassFile.FieldType.int) ∈ lw_tbl := am_tb3 178 (by rfl)
theorem lk_L_81 : Jvm.Cond.methodLink "IndependenceRowsLaw" (81 : Nat) ({ cls := "IndependenceRowsModel", name := "enough", desc := "(III)I" } : Jvm.MethodName) ∈ lw_tbl := am_tb3 179 (by rfl)
theorem im_Y_enough : Jvm.Cond.instanceMethod ({ cls := "IndependenceRowsModel", name := "enough", desc := "(III)I" } : Jvm.MethodName) ∈ lw_tbl := am_tb3 180 (by rfl)
theorem se_Y_enough : Jvm.Cond.selects "IndependenceRowsModel" ({ cls := "IndependenceRowsModel", name := "enough", desc := "(III)I" } : Jvm.MethodName) ({ cls := "IndependenceRowsModel", name := "enough", desc := "(III)I" } : Jvm.MethodName) ∈ lw_tbl := am_tb3 181 (by rfl)
theorem co_Y_enough : Jvm.Cond.code ({ cls := "IndependenceRowsModel", name := "enough", desc := "(III)I" } : Jvm.MethodName) prog_8_method_32_code (4 : Nat) (Option.some Jvm.ClassFile.FieldType.int) ∈ lw_tbl := am_tb3 182 (by rfl)
theorem lk_L_85 : Jvm.Cond.methodLink "IndependenceRowsLaw" (85 : Nat) ({ cls := "IndependenceRowsModel", name := "keep", desc := "()I" } : Jvm.MethodName) ∈ lw_tbl := am_tb3 183 (by rfl)
theorem im_Y_keep : Jvm.Cond.instanceMethod ({ cls := "IndependenceRowsModel", name := "keep", desc := "()I" } : Jvm.MethodName) ∈ lw_tbl := am_tb3 184 (by rfl)
theorem se_Y_keep : Jvm.Cond.selects "IndependenceRowsModel" ({ cls := "IndependenceRowsModel", name := "keep", desc := "()I" } : Jvm.MethodName) ({ cls := "IndependenceRowsModel", name := "keep", desc := "()I" } : Jvm.MethodName) ∈ lw_tbl := am_tb3 185 (by rfl)
theorem co_Y_keep : Jvm.Cond.code ({ cls := "IndependenceRowsModel", name := "keep", desc := "()I" } : Jvm.MethodName) prog_8_method_33_code (2 : Nat) (Option.some Jvm.ClassFile.FieldType.int) ∈ lw_tbl := am_tb3 186 (by rfl)
theorem lk_L_89 : Jvm.Cond.methodLink "IndependenceRowsLaw" (89 : Nat) ({ cls := "IndependenceRowsModel", name := "alike", desc := "()I" } : Jvm.MethodName) ∈ lw_tbl := am_tb3 187 (by rfl)
theorem im_Y_alike : Jvm.Cond.instanceMethod ({ cls := "IndependenceRowsModel", name := "alike", desc := "()I" } : Jvm.MethodName) ∈ lw_tbl := am_tb3 188 (by rfl)
theorem se_Y_alike : Jvm.Cond.selects "IndependenceRowsModel" ({ cls := "IndependenceRowsModel", name := "alike", desc := "()I" } : Jvm.MethodName) ({ cls := "IndependenceRowsModel", name := "alike", desc := "()I" } : Jvm.MethodName) ∈ lw_tbl := am_tb3 189 (by rfl)
theorem co_Y_alike : Jvm.Cond.code ({ cls := "IndependenceRowsModel", name := "alike", desc := "()I" } : Jvm.MethodName) prog_8_method_36_code (1 : Nat) (Option.some Jvm.ClassFile.FieldType.int) ∈ lw_tbl := am_tb3 190 (by rfl)
theorem lk_Y_135 : Jvm.Cond.methodLink "IndependenceRowsModel" (135 : Nat) ({ cls := "IndependenceRowsModel", name := "learn", desc := "()V" } : Jvm.MethodName) ∈ lw_tbl := am_tb3 191 (by rfl)
theorem im_Y_learn : Jvm.Cond.instanceMethod ({ cls := "IndependenceRowsModel", name := "learn", desc := "()V" } : Jvm.MethodName) ∈ lw_tbl := am_tb3 193 (by rfl)
theorem co_Y_learn : Jvm.Cond.code ({ cls := "IndependenceRowsModel", name := "learn", desc := "()V" } : Jvm.MethodName) prog_8_method_34_code (5 : Nat) (Option.none : Option Jvm.ClassFile.FieldType) ∈ lw_tbl := am_tb3 194 (by rfl)
theorem lk_Y_138 : Jvm.Cond.methodLink "IndependenceRowsModel" (138 : Nat) ({ cls := "IndependenceRowsModel", name := "tellsAlike", desc := "([I)Z" } : Jvm.MethodName) ∈ lw_tbl := am_tb3 195 (by rfl)
theorem im_Y_tellsAlike : Jvm.Cond.instanceMethod ({ cls := "IndependenceRowsModel", name := "tellsAlike", desc := "([I)Z" } : Jvm.MethodName) ∈ lw_tbl := am_tb3 197 (by rfl)
theorem co_Y_tellsAlike : Jvm.Cond.code ({ cls := "IndependenceRowsModel", name := "tellsAlike", desc := "([I)Z" } : Jvm.MethodName) prog_8_method_35_code (6 : Nat) (Option.some Jvm.ClassFile.FieldType.boolean) ∈ lw_tbl := am_tb3 198 (by rfl)
theorem lk_L_93 : Jvm.Cond.methodLink "IndependenceRowsLaw" (93 : Nat) ({ cls := "IndependenceRowsModel", name := "settled", desc := "(II)I" } : Jvm.MethodName) ∈ lw_tbl := am_tb3 199 (by rfl)
theorem im_Y_settled : Jvm.Cond.instanceMethod ({ cls := "IndependenceRowsModel", name := "settled", desc := "(II)I" } : Jvm.MethodName) ∈ lw_tbl := am_tb3 200 (by rfl)
theorem se_Y_settled : Jvm.Cond.selects "IndependenceRowsModel" ({ cls := "IndependenceRowsModel", name := "settled", desc := "(II)I" } : Jvm.MethodName) ({ cls := "IndependenceRowsModel", name := "settled", desc := "(II)I" } : Jvm.MethodName) ∈ lw_tbl := am_tb3 201 (by rfl)
theorem co_Y_settled : Jvm.Cond.code ({ cls := "IndependenceRowsModel", name := "settled", desc := "(II)I" } : Jvm.MethodName) prog_8_method_40_code (6 : Nat) (Option.some Jvm.ClassFile.FieldType.int) ∈ lw_tbl := am_tb3 202 (by rfl)
theorem lk_Y_156 : Jvm.Cond.methodLink "IndependenceRowsModel" (156 : Nat) ({ cls := "IndependenceRowsModel", name := "countFamily", desc := "()V" } : Jvm.MethodName) ∈ lw_tbl := am_tb3 203 (by rfl)
theorem im_Y_countFamily : Jvm.Cond.instanceMethod ({ cls := "IndependenceRowsModel", name := "countFamily", desc := "()V" } : Jvm.MethodName) ∈ lw_tbl := am_tb3 205 (by rfl)
theorem co_Y_countFamily : Jvm.Cond.code ({ cls := "IndependenceRowsModel", name := "countFamily", desc := "()V" } : Jvm.MethodName) prog_8_method_39_code (6 : Nat) (Option.none : Option Jvm.ClassFile.FieldType) ∈ lw_tbl := am_tb3 206 (by rfl)
theorem lk_Y_142 : Jvm.Cond.methodLink "IndependenceRowsModel" (142 : Nat) ({ cls := "IndependenceRowsModel", name := "listArcs", desc := "()I" } : Jvm.MethodName) ∈ lw_tbl := am_tb3 207 (by rfl)
theorem im_Y_listArcs : Jvm.Cond.instanceMethod ({ cls := "IndependenceRowsModel", name := "listArcs", desc := "()I" } : Jvm.MethodName) ∈ lw_tbl := am_tb3 209 (by rfl)
theorem co_Y_listArcs : Jvm.Cond.code ({ cls := "IndependenceRowsModel", name := "listArcs", desc := "()I" } : Jvm.MethodName) prog_8_method_37_code (4 : Nat) (Option.some Jvm.ClassFile.FieldType.int) ∈ lw_tbl := am_tb3 210 (by rfl)
theorem lk_Y_152 : Jvm.Cond.methodLink "IndependenceRowsModel" (152 : Nat) ({ cls := "IndependenceRowsModel", name := "hasNoRing", desc := "()Z" } : Jvm.MethodName) ∈ lw_tbl := am_tb3 211 (by rfl)
theorem im_Y_hasNoRing : Jvm.Cond.instanceMethod ({ cls := "IndependenceRowsModel", name := "hasNoRing", desc := "()Z" } : Jvm.MethodName) ∈ lw_tbl := am_tb3 213 (by rfl)
theorem co_Y_hasNoRing : Jvm.Cond.code ({ cls := "IndependenceRowsModel", name := "hasNoRing", desc := "()Z" } : Jvm.MethodName) prog_8_method_38_code (4 : Nat) (Option.some Jvm.ClassFile.FieldType.boolean) ∈ lw_tbl := am_tb3 214 (by rfl)
theorem lk_L_97 : Jvm.Cond.methodLink "IndependenceRowsLaw" (97 : Nat) ({ cls := "IndependenceRowsModel", name := "family", desc := "()I" } : Jvm.MethodName) ∈ lw_tbl := am_tb3 215 (by rfl)
theorem im_Y_family : Jvm.Cond.instanceMethod ({ cls := "IndependenceRowsModel", name := "family", desc := "()I" } : Jvm.MethodName) ∈ lw_tbl := am_tb3 216 (by rfl)
theorem se_Y_family : Jvm.Cond.selects "IndependenceRowsModel" ({ cls := "IndependenceRowsModel", name := "family", desc := "()I" } : Jvm.MethodName) ({ cls := "IndependenceRowsModel", name := "family", desc := "()I" } : Jvm.MethodName) ∈ lw_tbl := am_tb3 217 (by rfl)
theorem co_Y_family : Jvm.Cond.code ({ cls := "IndependenceRowsModel", name := "family", desc := "()I" } : Jvm.MethodName) prog_8_method_41_code (1 : Nat) (Option.some Jvm.ClassFile.FieldType.int) ∈ lw_tbl := am_tb3 218 (by rfl)
theorem lk_L_101 : Jvm.Cond.methodLink "IndependenceRowsLaw" (101 : Nat) ({ cls := "IndependenceRowsModel", name := "count", desc := "(I)I" } : Jvm.MethodName) ∈ lw_tbl := am_tb3 219 (by rfl)
theorem im_Y_count : Jvm.Cond.instanceMethod ({ cls := "IndependenceRowsModel", name := "count", desc := "(I)I" } : Jvm.MethodName) ∈ lw_tbl := am_tb3 220 (by rfl)
theorem se_Y_count : Jvm.Cond.selects "IndependenceRowsModel" ({ cls := "IndependenceRowsModel", name := "count", desc := "(I)I" } : Jvm.MethodName) ({ cls := "IndependenceRowsModel", name := "count", desc := "(I)I" } : Jvm.MethodName) ∈ lw_tbl := am_tb3 221 (by rfl)
theorem co_Y_count : Jvm.Cond.code ({ cls := "IndependenceRowsModel", name := "count", desc := "(I)I" } : Jvm.MethodName) prog_8_method_42_code (4 : Nat) (Option.some Jvm.ClassFile.FieldType.int) ∈ lw_tbl := am_tb3 222 (by rfl)
theorem se_G_empty : Cond.selects "IndependenceRows$Graph" ⟨"IndependenceRows$Graph", "empty", "()V"⟩ ⟨"IndependenceRows$Graph", "empty", "()V"⟩ ∈ lw_tbl := am_se (⟨"IndependenceRows$Graph", "empty", "()V"⟩, 4) (by decide +kernel)
theorem se_T_releaseAll : Cond.selects "IndependenceRows$Tables" ⟨"IndependenceRows$Tables", "releaseAll", "()V"⟩ ⟨"IndependenceRows$Tables", "releaseAll", "()V"⟩ ∈ lw_tbl := am_se (⟨"IndependenceRows$Tables", "releaseAll", "()V"⟩, 3) (by decide +kernel)
theorem se_T_startRows : Cond.selects "IndependenceRows$Tables" ⟨"IndependenceRows$Tables", "startRows", "(I)V"⟩ ⟨"IndependenceRows$Tables", "startRows", "(I)V"⟩ ∈ lw_tbl := am_se (⟨"IndependenceRows$Tables", "startRows", "(I)V"⟩, 3) (by decide +kernel)
theorem se_X_isPair : Cond.selects "IndependenceRows" ⟨"IndependenceRows", "isPair", "(II)Z"⟩ ⟨"IndependenceRows", "isPair", "(II)Z"⟩ ∈ lw_tbl := am_se (⟨"IndependenceRows", "isPair", "(II)Z"⟩, 10) (by decide +kernel)
theorem se_X_isPlace : Cond.selects "IndependenceRows" ⟨"IndependenceRows", "isPlace", "(I)Z"⟩ ⟨"IndependenceRows", "isPlace", "(I)Z"⟩ ∈ lw_tbl := am_se (⟨"IndependenceRows", "isPlace", "(I)Z"⟩, 10) (by decide +kernel)
theorem se_G_neighbours : Cond.selects "IndependenceRows$Graph" ⟨"IndependenceRows$Graph", "neighbours", "(I)I"⟩ ⟨"IndependenceRows$Graph", "neighbours", "(I)I"⟩ ∈ lw_tbl := am_se (⟨"IndependenceRows$Graph", "neighbours", "(I)I"⟩, 4) (by decide +kernel)
theorem se_G_join : Cond.selects "IndependenceRows$Graph" ⟨"IndependenceRows$Graph", "join", "(II)V"⟩ ⟨"IndependenceRows$Graph", "join", "(II)V"⟩ ∈ lw_tbl := am_se (⟨"IndependenceRows$Graph", "join", "(II)V"⟩, 4) (by decide +kernel)
theorem se_G_part : Cond.selects "IndependenceRows$Graph" ⟨"IndependenceRows$Graph", "part", "(II)V"⟩ ⟨"IndependenceRows$Graph", "part", "(II)V"⟩ ∈ lw_tbl := am_se (⟨"IndependenceRows$Graph", "part", "(II)V"⟩, 4) (by decide +kernel)
theorem se_X_isRow : Cond.selects "IndependenceRows" ⟨"IndependenceRows", "isRow", "(II)Z"⟩ ⟨"IndependenceRows", "isRow", "(II)Z"⟩ ∈ lw_tbl := am_se (⟨"IndependenceRows", "isRow", "(II)Z"⟩, 10) (by decide +kernel)
theorem se_G_rows : Cond.selects "IndependenceRows$Graph" ⟨"IndependenceRows$Graph", "rows", "(I)I"⟩ ⟨"IndependenceRows$Graph", "rows", "(I)I"⟩ ∈ lw_tbl := am_se (⟨"IndependenceRows$Graph", "rows", "(I)I"⟩, 4) (by decide +kernel)
theorem se_T_heldAt : Cond.selects "IndependenceRows$Tables" ⟨"IndependenceRows$Tables", "heldAt", "(I)I"⟩ ⟨"IndependenceRows$Tables", "heldAt", "(I)I"⟩ ∈ lw_tbl := am_se (⟨"IndependenceRows$Tables", "heldAt", "(I)I"⟩, 3) (by decide +kernel)
theorem se_T_setHeld : Cond.selects "IndependenceRows$Tables" ⟨"IndependenceRows$Tables", "setHeld", "(II)V"⟩ ⟨"IndependenceRows$Tables", "setHeld", "(II)V"⟩ ∈ lw_tbl := am_se (⟨"IndependenceRows$Tables", "setHeld", "(II)V"⟩, 3) (by decide +kernel)
theorem se_V_lookAt : Cond.selects "IndependenceRows$Walks" ⟨"IndependenceRows$Walks", "lookAt", "(LIndependenceRows$Graph;II)V"⟩ ⟨"IndependenceRows$Walks", "lookAt", "(LIndependenceRows$Graph;II)V"⟩ ∈ lw_tbl := am_se (⟨"IndependenceRows$Walks", "lookAt", "(LIndependenceRows$Graph;II)V"⟩, 8) (by decide +kernel)
theorem se_V_below : Cond.selects "IndependenceRows$Walks" ⟨"IndependenceRows$Walks", "below", "(I)I"⟩ ⟨"IndependenceRows$Walks", "below", "(I)I"⟩ ∈ lw_tbl := am_se (⟨"IndependenceRows$Walks", "below", "(I)I"⟩, 8) (by decide +kernel)
theorem se_X_isQuestion : Cond.selects "IndependenceRows" ⟨"IndependenceRows", "isQuestion", "(III)Z"⟩ ⟨"IndependenceRows", "isQuestion", "(III)Z"⟩ ∈ lw_tbl := am_se (⟨"IndependenceRows", "isQuestion", "(III)Z"⟩, 10) (by decide +kernel)
theorem se_X_isSet : Cond.selects "IndependenceRows" ⟨"IndependenceRows", "isSet", "(I)Z"⟩ ⟨"IndependenceRows", "isSet", "(I)Z"⟩ ∈ lw_tbl := am_se (⟨"IndependenceRows", "isSet", "(I)Z"⟩, 10) (by decide +kernel)
theorem se_G_everyPlace : Cond.selects "IndependenceRows$Graph" ⟨"IndependenceRows$Graph", "everyPlace", "()I"⟩ ⟨"IndependenceRows$Graph", "everyPlace", "()I"⟩ ∈ lw_tbl := am_se (⟨"IndependenceRows$Graph", "everyPlace", "()I"⟩, 4) (by decide +kernel)
theorem se_V_shortest : Cond.selects "IndependenceRows$Walks" ⟨"IndependenceRows$Walks", "shortest", "(III)I"⟩ ⟨"IndependenceRows$Walks", "shortest", "(III)I"⟩ ∈ lw_tbl := am_se (⟨"IndependenceRows$Walks", "shortest", "(III)I"⟩, 8) (by decide +kernel)
theorem se_V_start : Cond.selects "IndependenceRows$Walks" ⟨"IndependenceRows$Walks", "start", "(II)V"⟩ ⟨"IndependenceRows$Walks", "start", "(II)V"⟩ ∈ lw_tbl := am_se (⟨"IndependenceRows$Walks", "start", "(II)V"⟩, 8) (by decide +kernel)
theorem se_V_step : Cond.selects "IndependenceRows$Walks" ⟨"IndependenceRows$Walks", "step", "()V"⟩ ⟨"IndependenceRows$Walks", "step", "()V"⟩ ∈ lw_tbl := am_se (⟨"IndependenceRows$Walks", "step", "()V"⟩, 8) (by decide +kernel)
theorem se_T_product : Cond.selects "IndependenceRows$Tables" ⟨"IndependenceRows$Tables", "product", "(LIndependenceRows$Graph;I)J"⟩ ⟨"IndependenceRows$Tables", "product", "(LIndependenceRows$Graph;I)J"⟩ ∈ lw_tbl := am_se (⟨"IndependenceRows$Tables", "product", "(LIndependenceRows$Graph;I)J"⟩, 3) (by decide +kernel)
theorem se_T_factor : Cond.selects "IndependenceRows$Tables" ⟨"IndependenceRows$Tables", "factor", "(LIndependenceRows$Graph;II)I"⟩ ⟨"IndependenceRows$Tables", "factor", "(LIndependenceRows$Graph;II)I"⟩ ∈ lw_tbl := am_se (⟨"IndependenceRows$Tables", "factor", "(LIndependenceRows$Graph;II)I"⟩, 3) (by decide +kernel)
theorem se_X_leastDifference : Cond.selects "IndependenceRows" ⟨"IndependenceRows", "leastDifference", "(III)I"⟩ ⟨"IndependenceRows", "leastDifference", "(III)I"⟩ ∈ lw_tbl := am_se (⟨"IndependenceRows", "leastDifference", "(III)I"⟩, 10) (by decide +kernel)
theorem se_N_start : Cond.selects "IndependenceRows$Margin" ⟨"IndependenceRows$Margin", "start", "(I)V"⟩ ⟨"IndependenceRows$Margin", "start", "(I)V"⟩ ∈ lw_tbl := am_se (⟨"IndependenceRows$Margin", "start", "(I)V"⟩, 2) (by decide +kernel)
theorem se_N_add : Cond.selects "IndependenceRows$Margin" ⟨"IndependenceRows$Margin", "add", "(IJ)V"⟩ ⟨"IndependenceRows$Margin", "add", "(IJ)V"⟩ ∈ lw_tbl := am_se (⟨"IndependenceRows$Margin", "add", "(IJ)V"⟩, 2) (by decide +kernel)
theorem se_N_sum : Cond.selects "IndependenceRows$Margin" ⟨"IndependenceRows$Margin", "sum", "(I)J"⟩ ⟨"IndependenceRows$Margin", "sum", "(I)J"⟩ ∈ lw_tbl := am_se (⟨"IndependenceRows$Margin", "sum", "(I)J"⟩, 2) (by decide +kernel)
theorem se_X_fewest : Cond.selects "IndependenceRows" ⟨"IndependenceRows", "fewest", "(III)I"⟩ ⟨"IndependenceRows", "fewest", "(III)I"⟩ ∈ lw_tbl := am_se (⟨"IndependenceRows", "fewest", "(III)I"⟩, 10) (by decide +kernel)
theorem se_V_reached : Cond.selects "IndependenceRows$Walks" ⟨"IndependenceRows$Walks", "reached", "(II)I"⟩ ⟨"IndependenceRows$Walks", "reached", "(II)I"⟩ ∈ lw_tbl := am_se (⟨"IndependenceRows$Walks", "reached", "(II)I"⟩, 8) (by decide +kernel)
theorem se_G_copy : Cond.selects "IndependenceRows$Graph" ⟨"IndependenceRows$Graph", "copy", "(LIndependenceRows$Graph;)V"⟩ ⟨"IndependenceRows$Graph", "copy", "(LIndependenceRows$Graph;)V"⟩ ∈ lw_tbl := am_se (⟨"IndependenceRows$Graph", "copy", "(LIndependenceRows$Graph;)V"⟩, 4) (by decide +kernel)
theorem se_G_tellsTheSameAs : Cond.selects "IndependenceRows$Graph" ⟨"IndependenceRows$Graph", "tellsTheSameAs", "(LIndependenceRows$Graph;)Z"⟩ ⟨"IndependenceRows$Graph", "tellsTheSameAs", "(LIndependenceRows$Graph;)Z"⟩ ∈ lw_tbl := am_se (⟨"IndependenceRows$Graph", "tellsTheSameAs", "(LIndependenceRows$Graph;)Z"⟩, 4) (by decide +kernel)
theorem se_G_strangers : Cond.selects "IndependenceRows$Graph" ⟨"IndependenceRows$Graph", "strangers", "(II)I"⟩ ⟨"IndependenceRows$Graph", "strangers", "(II)I"⟩ ∈ lw_tbl := am_se (⟨"IndependenceRows$Graph", "strangers", "(II)I"⟩, 4) (by decide +kernel)
theorem se_K_explore : Cond.selects "IndependenceRows$Kin" ⟨"IndependenceRows$Kin", "explore", "(LIndependenceRows$Graph;)V"⟩ ⟨"IndependenceRows$Kin", "explore", "(LIndependenceRows$Graph;)V"⟩ ∈ lw_tbl := am_se (⟨"IndependenceRows$Kin", "explore", "(LIndependenceRows$Graph;)V"⟩, 7) (by decide +kernel)
theorem se_K_listArcs : Cond.selects "IndependenceRows$Kin" ⟨"IndependenceRows$Kin", "listArcs", "()V"⟩ ⟨"IndependenceRows$Kin", "listArcs", "()V"⟩ ∈ lw_tbl := am_se (⟨"IndependenceRows$Kin", "listArcs", "()V"⟩, 7) (by decide +kernel)
theorem se_K_direct : Cond.selects "IndependenceRows$Kin" ⟨"IndependenceRows$Kin", "direct", "(II)V"⟩ ⟨"IndependenceRows$Kin", "direct", "(II)V"⟩ ∈ lw_tbl := am_se (⟨"IndependenceRows$Kin", "direct", "(II)V"⟩, 7) (by decide +kernel)
theorem se_K_directOne : Cond.selects "IndependenceRows$Kin" ⟨"IndependenceRows$Kin", "directOne", "(IIII)V"⟩ ⟨"IndependenceRows$Kin", "directOne", "(IIII)V"⟩ ∈ lw_tbl := am_se (⟨"IndependenceRows$Kin", "directOne", "(IIII)V"⟩, 7) (by decide +kernel)
theorem se_K_meetsAsFirst : Cond.selects "IndependenceRows$Kin" ⟨"IndependenceRows$Kin", "meetsAsFirst", "(II)Z"⟩ ⟨"IndependenceRows$Kin", "meetsAsFirst", "(II)Z"⟩ ∈ lw_tbl := am_se (⟨"IndependenceRows$Kin", "meetsAsFirst", "(II)Z"⟩, 7) (by decide +kernel)
theorem se_K_isTurned : Cond.selects "IndependenceRows$Kin" ⟨"IndependenceRows$Kin", "isTurned", "(II)Z"⟩ ⟨"IndependenceRows$Kin", "isTurned", "(II)Z"⟩ ∈ lw_tbl := am_se (⟨"IndependenceRows$Kin", "isTurned", "(II)Z"⟩, 7) (by decide +kernel)
theorem se_Y_begin : Cond.selects "IndependenceRowsModel" ⟨"IndependenceRowsModel", "begin", "()V"⟩ ⟨"IndependenceRowsModel", "begin", "()V"⟩ ∈ lw_tbl := am_se (⟨"IndependenceRowsModel", "begin", "()V"⟩, 23) (by decide +kernel)
theorem se_Y_evenOdds : Cond.selects "IndependenceRowsModel" ⟨"IndependenceRowsModel", "evenOdds", "(I)V"⟩ ⟨"IndependenceRowsModel", "evenOdds", "(I)V"⟩ ∈ lw_tbl := am_se (⟨"IndependenceRowsModel", "evenOdds", "(I)V"⟩, 23) (by decide +kernel)
theorem se_Y_isPlace : Cond.selects "IndependenceRowsModel" ⟨"IndependenceRowsModel", "isPlace", "(I)Z"⟩ ⟨"IndependenceRowsModel", "isPlace", "(I)Z"⟩ ∈ lw_tbl := am_se (⟨"IndependenceRowsModel", "isPlace", "(I)Z"⟩, 23) (by decide +kernel)
theorem se_Y_aboveOf : Cond.selects "IndependenceRowsModel" ⟨"IndependenceRowsModel", "aboveOf", "([II)I"⟩ ⟨"IndependenceRowsModel", "aboveOf", "([II)I"⟩ ∈ lw_tbl := am_se (⟨"IndependenceRowsModel", "aboveOf", "([II)I"⟩, 23) (by decide +kernel)
theorem se_Y_isArc : Cond.selects "IndependenceRowsModel" ⟨"IndependenceRowsModel", "isArc", "(II)Z"⟩ ⟨"IndependenceRowsModel", "isArc", "(II)Z"⟩ ∈ lw_tbl := am_se (⟨"IndependenceRowsModel", "isArc", "(II)Z"⟩, 23) (by decide +kernel)
theorem se_Y_isRow : Cond.selects "IndependenceRowsModel" ⟨"IndependenceRowsModel", "isRow", "(II)Z"⟩ ⟨"IndependenceRowsModel", "isRow", "(II)Z"⟩ ∈ lw_tbl := am_se (⟨"IndependenceRowsModel", "isRow", "(II)Z"⟩, 23) (by decide +kernel)
theorem se_Y_countArcs : Cond.selects "IndependenceRowsModel" ⟨"IndependenceRowsModel", "countArcs", "(I)V"⟩ ⟨"IndependenceRowsModel", "countArcs", "(I)V"⟩ ∈ lw_tbl := am_se (⟨"IndependenceRowsModel", "countArcs", "(I)V"⟩, 23) (by decide +kernel)
theorem se_Y_belowOf : Cond.selects "IndependenceRowsModel" ⟨"IndependenceRowsModel", "belowOf", "(I)I"⟩ ⟨"IndependenceRowsModel", "belowOf", "(I)I"⟩ ∈ lw_tbl := am_se (⟨"IndependenceRowsModel", "belowOf", "(I)I"⟩, 23) (by decide +kernel)
theorem se_Y_isAsked : Cond.selects "IndependenceRowsModel" ⟨"IndependenceRowsModel", "isAsked", "(III)Z"⟩ ⟨"IndependenceRowsModel", "isAsked", "(III)Z"⟩ ∈ lw_tbl := am_se (⟨"IndependenceRowsModel", "isAsked", "(III)Z"⟩, 23) (by decide +kernel)
theorem se_Y_isSet : Cond.selects "IndependenceRowsModel" ⟨"IndependenceRowsModel", "isSet", "(I)Z"⟩ ⟨"IndependenceRowsModel", "isSet", "(I)Z"⟩ ∈ lw_tbl := am_se (⟨"IndependenceRowsModel", "isSet", "(I)Z"⟩, 23) (by decide +kernel)
theorem se_Y_isSeparated : Cond.selects "IndependenceRowsModel" ⟨"IndependenceRowsModel", "isSeparated", "([IIII)Z"⟩ ⟨"IndependenceRowsModel", "isSeparated", "([IIII)Z"⟩ ∈ lw_tbl := am_se (⟨"IndependenceRowsModel", "isSeparated", "([IIII)Z"⟩, 23) (by decide +kernel)
theorem se_Y_children2 : Cond.selects "IndependenceRowsModel" ⟨"IndependenceRowsModel", "children2", "(II)I"⟩ ⟨"IndependenceRowsModel", "children2", "(II)I"⟩ ∈ lw_tbl := am_se (⟨"IndependenceRowsModel", "children2", "(II)I"⟩, 23) (by decide +kernel)
theorem se_Y_weigh : Cond.selects "IndependenceRowsModel" ⟨"IndependenceRowsModel", "weigh", "()V"⟩ ⟨"IndependenceRowsModel", "weigh", "()V"⟩ ∈ lw_tbl := am_se (⟨"IndependenceRowsModel", "weigh", "()V"⟩, 23) (by decide +kernel)
theorem se_Y_hangs : Cond.selects "IndependenceRowsModel" ⟨"IndependenceRowsModel", "hangs", "(III)I"⟩ ⟨"IndependenceRowsModel", "hangs", "(III)I"⟩ ∈ lw_tbl := am_se (⟨"IndependenceRowsModel", "hangs", "(III)I"⟩, 23) (by decide +kernel)
theorem se_Y_learn : Cond.selects "IndependenceRowsModel" ⟨"IndependenceRowsModel", "learn", "()V"⟩ ⟨"IndependenceRowsModel", "learn", "()V"⟩ ∈ lw_tbl := am_se (⟨"IndependenceRowsModel", "learn", "()V"⟩, 23) (by decide +kernel)
theorem se_Y_tellsAlike : Cond.selects "IndependenceRowsModel" ⟨"IndependenceRowsModel", "tellsAlike", "([I)Z"⟩ ⟨"IndependenceRowsModel", "tellsAlike", "([I)Z"⟩ ∈ lw_tbl := am_se (⟨"IndependenceRowsModel", "tellsAlike", "([I)Z"⟩, 23) (by decide +kernel)
theorem se_Y_countFamily : Cond.selects "IndependenceRowsModel" ⟨"IndependenceRowsModel", "countFamily", "()V"⟩ ⟨"IndependenceRowsModel", "countFamily", "()V"⟩ ∈ lw_tbl := am_se (⟨"IndependenceRowsModel", "countFamily", "()V"⟩, 23) (by decide +kernel)
theorem se_Y_listArcs : Cond.selects "IndependenceRowsModel" ⟨"IndependenceRowsModel", "listArcs", "()I"⟩ ⟨"IndependenceRowsModel", "listArcs", "()I"⟩ ∈ lw_tbl := am_se (⟨"IndependenceRowsModel", "listArcs", "()I"⟩, 23) (by decide +kernel)
theorem se_Y_hasNoRing : Cond.selects "IndependenceRowsModel" ⟨"IndependenceRowsModel", "hasNoRing", "()Z"⟩ ⟨"IndependenceRowsModel", "hasNoRing", "()Z"⟩ ∈ lw_tbl := am_se (⟨"IndependenceRowsModel", "hasNoRing", "()Z"⟩, 23) (by decide +kernel)
end
section
/-! PURE ROWS: sets of places as numbers, over nI -/
theorem pu_and (a b : Nat) : nI a &&& nI b = nI (a &&& b) := by
  apply Int32.toBitVec_inj.1
  show BitVec.ofNat 32 a &&& BitVec.ofNat 32 b = BitVec.ofNat 32 (a &&& b)
  apply BitVec.eq_of_getLsbD_eq
  intro i hi
  simp [hi]
theorem pu_or (a b : Nat) : nI a ||| nI b = nI (a ||| b) := by
  apply Int32.toBitVec_inj.1
  show BitVec.ofNat 32 a ||| BitVec.ofNat 32 b = BitVec.ofNat 32 (a ||| b)
  apply BitVec.eq_of_getLsbD_eq
  intro i hi
  simp [hi]
theorem pu_xor (a b : Nat) : nI a ^^^ nI b = nI (a ^^^ b) := by
  apply Int32.toBitVec_inj.1
  show BitVec.ofNat 32 a ^^^ BitVec.ofNat 32 b = BitVec.ofNat 32 (a ^^^ b)
  apply BitVec.eq_of_getLsbD_eq
  intro i hi
  simp [hi]
/-- those of a that are not in b -/
def pu_dif (a b : Nat) : Nat := a &&& (b ^^^ 4294967295)
theorem pu_m1 : (-1 : Int32) = nI 4294967295 := by decide +kernel
theorem pu_not (a b : Nat) : nI a &&& (nI b ^^^ (-1)) = nI (pu_dif a b) := by
  rw [pu_m1, pu_xor, pu_and]
  rfl
theorem pu_dif_bit {a b i : Nat} (hi : i < 32) : (pu_dif a b).testBit i = (a.testBit i && !b.testBit i) := by
  unfold pu_dif
  rw [Nat.testBit_and, Nat.testBit_xor, show (4294967295 : Nat) = 2 ^ 32 - 1 from rfl, Nat.testBit_two_pow_sub_one]
  simp [hi]
theorem pu_dif_le (a b : Nat) : pu_dif a b ≤ a := Nat.and_le_left
theorem pu_sh : ∀ n, n < 32 → ((nI n &&& 31).toBitVec.smod 32).toNat = n := by decide +kernel
theorem pu_bit : ∀ i, i < 31 → (1 : Int32) <<< (nI i &&& 31) = nI (2 ^ i) := by decide +kernel
def pu_b (b : Bool) : Int32 := if b then 1 else 0
theorem pu_b0 {b : Bool} : pu_b b = 0 ↔ b = false := by cases b <;> decide
theorem pu_has {m i : Nat} (hm : m < 2 ^ 31) (hi : i < 32) : (nI m >>> (nI i &&& 31)) &&& 1 = pu_b (m.testBit i) := by
  rw [pk_shrN hm _ i (pu_sh i hi)]
  show nI (m / 2 ^ i) &&& nI 1 = _
  rw [pu_and, Nat.and_one_is_mod, Nat.testBit_eq_decide_div_mod_eq]
  by_cases h : m / 2 ^ i % 2 = 1
  · rw [h]; rfl
  · rw [show m / 2 ^ i % 2 = 0 by omega]; rfl
theorem pu_nI_inj {a b : Nat} (ha : a < 2 ^ 31) (hb : b < 2 ^ 31) (h : nI a = nI b) : a = b := (nI_eq ha hb).mp h
/-- a row of numbers, one of them written -/
def pu_set (g : Nat → Nat) (j x : Nat) : Nat → Nat := fun i => if i = j then x else g i
theorem pu_upd (g : Nat → Nat) (j x : Nat) : upd (fun i => nI (g i)) j (nI x) = fun i => nI (pu_set g j x i) := by
  funext i
  unfold upd pu_set
  by_cases h : i = j
  · simp [h]
  · simp [h]
theorem pu_set_eq {g : Nat → Nat} {j x : Nat} : pu_set g j x j = x := by simp [pu_set]
theorem pu_set_ne {g : Nat → Nat} {i j x : Nat} (h : i ≠ j) : pu_set g j x i = g i := by simp [pu_set, h]
/-- counting up: what holds at n, and at i if at i + 1, holds at all -/
theorem pu_up {P : Nat → Prop} {n : Nat} (hn : P n) (hs : ∀ i, i < n → P (i + 1) → P i) : ∀ i, i ≤ n → P i := by
  intro i hi
  obtain ⟨k, rfl⟩ : ∃ k, n = i + k := ⟨n - i, by omega⟩
  induction k generalizing i with
  | zero => exact hn
  | succ k ih => exact hs i (by omega) (ih (i := i + 1) (by rw [show i + 1 + k = i + (k + 1) by omega]; exact hn) (fun j hj => hs j (by omega)) (by omega))
/-- the union of the sets g i, i in m, i below k -/
def pu_un (g : Nat → Nat) (m : Nat) : Nat → Nat
  | 0 => 0
  | k + 1 => if m.testBit k then pu_un g m k ||| g k else pu_un g m k
theorem pu_un_bit {g : Nat → Nat} {m : Nat} : ∀ {k j : Nat}, (pu_un g m k).testBit j = true ↔ ∃ i, i < k ∧ m.testBit i = true ∧ (g i).testBit j = true
  | 0, j => by
    unfold pu_un
    rw [Nat.zero_testBit]
    exact ⟨fun h => absurd h (by simp), fun ⟨i, h, _⟩ => absurd h (Nat.not_lt_zero _)⟩
  | k + 1, j => by
    unfold pu_un
    by_cases hk : m.testBit k = true
    · rw [if_pos hk, Nat.testBit_or, Bool.or_eq_true, pu_un_bit]
      constructor
      · rintro (⟨i, h1, h2⟩ | h)
        · exact ⟨i, by omega, h2⟩
        · exact ⟨k, by omega, hk, h⟩
      · rintro ⟨i, h1, h2, h3⟩
        rcases Nat.lt_or_ge i k with h | h
        · exact Or.inl ⟨i, h, h2, h3⟩
        · rw [show i = k by omega] at h3
          exact Or.inr h3
    · rw [if_neg hk, pu_un_bit]
      constructor
      · rintro ⟨i, h1, h2⟩
        exact ⟨i, by omega, h2⟩
      · rintro ⟨i, h1, h2, h3⟩
        rcases Nat.lt_or_ge i k with h | h
        · exact ⟨i, h, h2, h3⟩
        · rw [show i = k by omega] at h2
          exact absurd h2 hk
theorem pu_un_lt {g : Nat → Nat} {m n : Nat} (hg : ∀ i, g i < 2 ^ n) : ∀ k, pu_un g m k < 2 ^ n
  | 0 => Nat.two_pow_pos n
  | k + 1 => by
    unfold pu_un
    by_cases hk : m.testBit k = true
    · rw [if_pos hk]; exact Nat.or_lt_two_pow (pu_un_lt hg k) (hg k)
    · rw [if_neg hk]; exact pu_un_lt hg k
/-- closing a set under g, r rounds, over n sets -/
def pu_cl (g : Nat → Nat) (n : Nat) : Nat → Nat → Nat
  | 0, a => a
  | r + 1, a => if a ||| pu_un g a n = a then a else pu_cl g n r (a ||| pu_un g a n)
end
section
/-! THE LOGIC OF WORLDS: a cell is known by its number (the order in which the run made it); am_Wp says that a method's walk from here ends as F says. Every rule below is one instruction. -/
/-- a method: its name, its bytes, its locals, what it answers -/
abbrev am_M : Type := MethodName × ByteArray × Nat × Option FieldType
/-- a cell: an array (the number of its kind, its contents) or an object (the number of its sort, its fields) -/
abbrev am_C : Type := (Nat × vp_A) ⊕ (Nat × List Value)
abbrev am_W : Type := List am_C
abbrev am_L : Type := List (Nat × Value)
/-- the kinds of arrays -/
def am_tys (tc : Nat → ClassId) : List (ClassId × FieldType) := [(tc 0, .int), (tc 1, .long), (tc 2, .boolean), (tc 3, .array .int)]
def am_cv (r : Nat → Nat) (v : Value) : Value := match v with
  | .ref a => .ref (r (a + 1))
  | .retAddr _ => .ref (r 0)
  | .int x => .int x
  | .long x => .long x
  | .float x => .float x
  | .double x => .double x
  | .null => .null
def am_ca (r : Nat → Nat) (a : vp_A) : vp_A := match a with
  | (n, .inr (.inr (.inr (.inr f)))) => (n, .inr (.inr (.inr (.inr (fun j => (f j).map (fun a => r (a + 1)))))))
  | (n, .inl f) => (n, .inl f)
  | (n, .inr (.inl f)) => (n, .inr (.inl f))
  | (n, .inr (.inr (.inl f))) => (n, .inr (.inr (.inl f)))
  | (n, .inr (.inr (.inr (.inl f)))) => (n, .inr (.inr (.inr (.inl f))))
def am_ce (tc : Nat → ClassId) (r : Nat → Nat) (c : am_C) : va_E := match c with
  | .inl (t, a) => .inl (tc t, am_ca r a)
  | .inr (i, fs) => .inr (i, fs.map (am_cv r))
def am_cw (tc : Nat → ClassId) (r : Nat → Nat) (w : am_W) : va_W := w.mapIdx (fun i c => (r (i + 1), am_ce tc r c))
def am_cl (r : Nat → Nat) (ls : am_L) : List (Nat × Value) := ls.map (fun q => (q.1, am_cv r q.2))
/-- no reference beyond n -/
def am_wv (n : Nat) (v : Value) : Prop := match v with
  | .ref a => a < n
  | _ => True
def am_ws (n : Nat) : List Value → Prop
  | [] => True
  | v :: l => am_wv n v ∧ am_ws n l
def am_wl (n : Nat) : am_L → Prop
  | [] => True
  | q :: l => am_wv n q.2 ∧ am_wl n l
def am_wa (n : Nat) (a : vp_A) : Prop := match a with
  | (_, .inr (.inr (.inr (.inr f)))) => ∀ j b, f j = some b → b < n
  | _ => True
def am_wc (n : Nat) (c : am_C) : Prop := match c with
  | .inl (_, a) => am_wa n a
  | .inr (_, fs) => am_ws n fs
def am_ww (w : am_W) : Prop := ∀ (i : Nat) (c : am_C), w[i]? = some c → am_wc w.length c
def am_wo (n : Nat) (v : Option Value) : Prop := ∀ x, v = some x → am_wv n x
theorem am_wv_mono {n k : Nat} (h : n ≤ k) {v : Value} (hv : am_wv n v) : am_wv k v := by
  cases v <;> first | exact trivial | exact Nat.lt_of_lt_of_le hv h
theorem am_ws_mono {n k : Nat} (h : n ≤ k) : ∀ {l : List Value}, am_ws n l → am_ws k l
  | [], _ => trivial
  | _ :: _, q => ⟨am_wv_mono h q.1, am_ws_mono h q.2⟩
theorem am_wl_mono {n k : Nat} (h : n ≤ k) : ∀ {l : am_L}, am_wl n l → am_wl k l
  | [], _ => trivial
  | _ :: _, q => ⟨am_wv_mono h q.1, am_wl_mono h q.2⟩
theorem am_wa_mono {n k : Nat} (h : n ≤ k) {a : vp_A} (ha : am_wa n a) : am_wa k a := by
  obtain ⟨m, f | f | f | f | f⟩ := a
  · exact trivial
  · exact trivial
  · exact trivial
  · exact trivial
  · exact fun j b q => Nat.lt_of_lt_of_le (ha j b q) h
theorem am_wc_mono {n k : Nat} (h : n ≤ k) {c : am_C} (hc : am_wc n c) : am_wc k c := by
  obtain ⟨t, a⟩ | ⟨i, fs⟩ := c
  · exact am_wa_mono h hc
  · exact am_ws_mono h hc
theorem am_ws_app {n : Nat} : ∀ {l k : List Value}, am_ws n l → am_ws n k → am_ws n (l ++ k)
  | [], _, _, h => h
  | _ :: _, _, h, g => ⟨h.1, am_ws_app h.2 g⟩
theorem am_ws_r {n : Nat} : ∀ {l k : List Value}, am_ws n (l ++ k) → am_ws n k
  | [], _, h => h
  | _ :: _, _, h => am_ws_r h.2
theorem am_ws_l {n : Nat} : ∀ {l k : List Value}, am_ws n (l ++ k) → am_ws n l
  | [], _, _ => trivial
  | _ :: _, _, h => ⟨h.1, am_ws_l h.2⟩
theorem am_ws_mem {n : Nat} : ∀ {l : List Value} {v : Value}, am_ws n l → v ∈ l → am_wv n v
  | _ :: _, _, h, hv => by
    rcases List.mem_cons.mp hv with rfl | hv
    · exact h.1
    · exact am_ws_mem h.2 hv
theorem am_ws_of {n : Nat} : ∀ {l : List Value}, (∀ v, v ∈ l → am_wv n v) → am_ws n l
  | [], _ => trivial
  | _ :: _, h => ⟨h _ List.mem_cons_self, am_ws_of (fun v hv => h v (List.mem_cons_of_mem _ hv))⟩
theorem am_ws_rev {n : Nat} {l : List Value} (h : am_ws n l.reverse) : am_ws n l :=
  am_ws_of (fun v hv => am_ws_mem h (List.mem_reverse.mpr hv))
theorem am_wl_mem {n : Nat} : ∀ {l : am_L} {q : Nat × Value}, am_wl n l → q ∈ l → am_wv n q.2
  | _ :: _, _, h, hv => by
    rcases List.mem_cons.mp hv with rfl | hv
    · exact h.1
    · exact am_wl_mem h.2 hv
theorem am_wl_of {n : Nat} : ∀ {l : am_L}, (∀ q, q ∈ l → am_wv n q.2) → am_wl n l
  | [], _ => trivial
  | _ :: _, h => ⟨h _ List.mem_cons_self, am_wl_of (fun v hv => h v (List.mem_cons_of_mem _ hv))⟩
theorem am_wl_args {n : Nat} : ∀ {l : List Value} (i : Nat), am_ws n l → am_wl n (lv_args i l)
  | [], _, _ => trivial
  | _ :: _, _, h => ⟨h.1, am_wl_args _ h.2⟩
/-! another naming that agrees below n -/
theorem am_cv_ext {n : Nat} {r r1 : Nat → Nat} (h : ∀ a, a ≤ n → r1 a = r a) {v : Value} (hv : am_wv n v) : am_cv r1 v = am_cv r v := by
  cases v <;> first | rfl | exact congrArg Value.ref (h _ (Nat.zero_le _)) | exact congrArg Value.ref (h _ hv)
theorem am_cs_ext {n : Nat} {r r1 : Nat → Nat} (h : ∀ a, a ≤ n → r1 a = r a) : ∀ {l : List Value}, am_ws n l → l.map (am_cv r1) = l.map (am_cv r)
  | [], _ => rfl
  | v :: l, q => by rw [List.map_cons, List.map_cons, am_cv_ext h q.1, am_cs_ext h q.2]
theorem am_cl_ext {n : Nat} {r r1 : Nat → Nat} (h : ∀ a, a ≤ n → r1 a = r a) : ∀ {l : am_L}, am_wl n l → am_cl r1 l = am_cl r l
  | [], _ => rfl
  | v :: l, q => by
    show (v.1, am_cv r1 v.2) :: am_cl r1 l = (v.1, am_cv r v.2) :: am_cl r l
    rw [am_cv_ext h q.1, am_cl_ext h q.2]
theorem am_ce_ext {tc : Nat → ClassId} {n : Nat} {r r1 : Nat → Nat} (h : ∀ a, a ≤ n → r1 a = r a) {c : am_C} (hc : am_wc n c) : am_ce tc r1 c = am_ce tc r c := by
  obtain ⟨t, m, f | f | f | f | f⟩ | ⟨i, fs⟩ := c
  · rfl
  · rfl
  · rfl
  · rfl
  · show Sum.inl (tc t, am_ca r1 _) = Sum.inl (tc t, am_ca r _)
    have e : (fun j => (f j).map (fun a => r1 (a + 1))) = (fun j => (f j).map (fun a => r (a + 1))) := by
      funext j
      cases hj : f j with
      | none => rfl
      | some b => exact congrArg some (h _ (hc j b hj))
    simp only [am_ca, e]
  · show Sum.inr (i, fs.map (am_cv r1)) = Sum.inr (i, fs.map (am_cv r))
    rw [am_cs_ext h hc]
theorem am_cw_at {tc : Nat → ClassId} {r : Nat → Nat} {w : am_W} {i : Nat} {c : am_C} (h : w[i]? = some c) : (am_cw tc r w)[i]? = some (r (i + 1), am_ce tc r c) := by
  unfold am_cw
  rw [List.getElem?_mapIdx, h]
  rfl
theorem am_cw_of {tc : Nat → ClassId} {r : Nat → Nat} {w : am_W} {i : Nat} {x : Nat × va_E} (h : (am_cw tc r w)[i]? = some x) : ∃ c, w[i]? = some c ∧ x = (r (i + 1), am_ce tc r c) := by
  unfold am_cw at h
  rw [List.getElem?_mapIdx] at h
  cases hc : w[i]? with
  | none => rw [hc] at h; cases h
  | some c => rw [hc] at h; exact ⟨c, rfl, (Option.some.inj h).symm⟩
theorem am_cw_ext {tc : Nat → ClassId} {r r1 : Nat → Nat} {w : am_W} (h : ∀ a, a ≤ w.length → r1 a = r a) (hw : am_ww w) : am_cw tc r1 w = am_cw tc r w := by
  apply List.ext_getElem?
  intro i
  cases hc : w[i]? with
  | none =>
    unfold am_cw
    rw [List.getElem?_mapIdx, List.getElem?_mapIdx, hc]
    rfl
  | some c =>
    have hi : i < w.length := (List.getElem?_eq_some_iff.mp hc).1
    rw [am_cw_at hc, am_cw_at hc, am_ce_ext h (hw i c hc), h _ hi]
theorem am_cw_set {tc : Nat → ClassId} {r : Nat → Nat} {w : am_W} {i : Nat} {c : am_C} : am_cw tc r (w.set i c) = (am_cw tc r w).set i (r (i + 1), am_ce tc r c) := by
  apply List.ext_getElem?
  intro j
  unfold am_cw
  rw [List.getElem?_mapIdx, List.getElem?_set, List.getElem?_set, List.getElem?_mapIdx, List.length_mapIdx]
  by_cases hj : i = j
  · subst hj
    by_cases hl : i < w.length
    · simp [hl]
    · simp [hl]
  · simp [hj]
theorem am_cw_push {tc : Nat → ClassId} {r : Nat → Nat} {w : am_W} {c : am_C} : am_cw tc r (w ++ [c]) = am_cw tc r w ++ [(r (w.length + 1), am_ce tc r c)] := by
  unfold am_cw
  rw [List.mapIdx_append]
  simp
theorem am_ww_set {w : am_W} {i : Nat} {c : am_C} (h : am_ww w) (hc : am_wc w.length c) : am_ww (w.set i c) := by
  intro j x hx
  rw [List.length_set]
  rw [List.getElem?_set] at hx
  by_cases hj : i = j
  · rw [if_pos hj] at hx
    by_cases hl : i < w.length
    · rw [if_pos hl] at hx
      exact Option.some.inj hx ▸ hc
    · rw [if_neg hl] at hx; cases hx
  · rw [if_neg hj] at hx
    exact h j x hx
theorem am_ww_push {w : am_W} {c : am_C} (h : am_ww w) (hc : am_wc w.length c) : am_ww (w ++ [c]) := by
  intro j x hx
  rw [List.length_append]
  by_cases hl : j < w.length
  · rw [List.getElem?_append_left hl] at hx
    exact am_wc_mono (Nat.le_add_right _ _) (h j x hx)
  · rw [List.getElem?_append_right (Nat.not_lt.mp hl)] at hx
    have hz : j - w.length < 1 := (List.getElem?_eq_some_iff.mp hx).1
    rw [show j - w.length = 0 by omega] at hx
    exact Option.some.inj hx ▸ am_wc_mono (Nat.le_add_right _ _) hc
theorem am_ww_len {w : am_W} {i : Nat} {c : am_C} (h : w[i]? = some c) : i < w.length := (List.getElem?_eq_some_iff.mp h).1
/-! the words -/
def am_good : List Cond := lw_tbl.filter goodWord
def am_isN : Cond → Bool
  | .fieldLinkNest .. => true
  | .methodLinkNest .. => true
  | _ => false
def am_nest : List Cond := lw_tbl.filter am_isN
theorem am_in {w : Cond} (h : w ∈ lw_tbl) (g : goodWord w = true) : w ∈ am_good := List.mem_filter.mpr ⟨h, g⟩
theorem am_inN {w : Cond} (h : w ∈ lw_tbl) (g : am_isN w = true) : w ∈ am_nest := List.mem_filter.mpr ⟨h, g⟩
theorem am_goodIn {w : Cond} (h : w ∈ am_good) : w ∈ am_good ∧ ((w.onTables && w.keeps) = true ∨ ∃ ty, w = .arrayClass ty) := ⟨h, good_of_word (List.mem_filter.mp h).2⟩
theorem am_goodC {w : Cond} (h : w ∈ am_good) : GoodIn am_good (w :: am_good) := by
  intro x hx
  rcases List.mem_cons.mp hx with rfl | hx
  · exact am_goodIn h
  · exact am_goodIn hx
theorem am_Nw_onT {w : Cond} (h : am_isN w = true) : w.onTables = true := by
  cases w <;> first | (simp [am_isN] at h; done) | rfl
theorem am_Nw_warm {w : Cond} (h : am_isN w = true) {s U : State} (hW : s.WarmedH U.vm) (hZ : va_Nw w s) : va_Nw w U := by
  cases w <;> first | (simp [am_isN] at h; done) | exact va_Nw.warmF hW hZ | exact va_Nw.warmM hW hZ
/-! the surroundings -/
/-- the script: how long it is, what stands in it -/
abbrev am_S : Type := Option (Nat × (Nat → Int32))
def am_X (sc : am_S) (A : Nat → Prop) (s : State) (r : Nat → Nat) : Prop := match sc with
  | none => True
  | some (L, xs) => va_X (r 0) L xs s s.heap ∧ r 0 < s.heap.size ∧ ¬ A (r 0)
def am_Sm (sc : am_S) (tc : Nat → ClassId) (D : va_G) (A : Nat → Prop) (s : State) (r : Nat → Nat) (w : am_W) (H : Heap) (locs : List Loc) : Prop :=
  am_ww w ∧ va_P D vwCl (am_cw tc r w) H ∧ va_D A (am_cw tc r w) ∧ va_S A s.heap H locs ∧ am_X sc A s r
def am_Cx (M : am_M) (d : Nat) (tc : Nat → ClassId) (D : va_G) (A : Nat → Prop) (p : Program) (R : Room) (s : State) (m : MethodId) (args : Array Value) (meth : Method) (c : Code) : Prop :=
  p.tables.exec = Jvm.exec ∧ c.code = M.2.1 ∧ meth.sig.returnType = M.2.2.2 ∧ c.maxLocals = M.2.2.1 ∧ s.vm.findClass M.1.cls = some m.cls ∧ (∀ w ∈ am_good, w.before args s = true) ∧ (∀ w ∈ am_nest, va_Nw w s) ∧ va_K D vwCl (am_tys tc) s ∧ meth.locks = false ∧ meth.name = M.1.name ∧ (∀ q, s.heap.size ≤ q → A q) ∧ d ≤ R.frames ∧ d * 64 ≤ R.locals
/-- the instruction at pc is the method's return, and v fits it -/
def am_ret (M : am_M) (pc : Nat) (v : Option Value) : Prop :=
  (M.2.2.2 = none ∧ v = none ∧ decode M.2.1 pc = .ok (.return_, 1)) ∨
  (∃ ty x, M.2.2.2 = some ty ∧ v = some (.int x) ∧ narrow ty (.int x) = .int x ∧ decode M.2.1 pc = .ok (.ireturn, 1)) ∨
  (∃ x, M.2.2.2 = some .long ∧ v = some (.long x) ∧ decode M.2.1 pc = .ok (.lreturn, 1)) ∨
  (∃ ty a, M.2.2.2 = some ty ∧ ((∃ n, ty = .object n) ∨ ∃ t, ty = .array t) ∧ v = some (.ref a) ∧ decode M.2.1 pc = .ok (.areturn, 1))
def am_End (sc : am_S) (M : am_M) (p : Program) (l : Launch) (e : Env) (R : Room) (s : State) (m : MethodId) (args : Array Value) (below : List Frame) (meth : Method) (c : Code) (Q : State → Prop) (tc : Nat → ClassId) (D : va_G) (A : Nat → Prop) (mc ms : Nat) (r : Nat → Nat) (n : Nat) (F : Option Value → am_W → Prop) : Prop :=
  ∀ (v : Option Value) (w1 : am_W) (r1 : Nat → Nat) (H1 : Heap) (locs1 : List Loc) (cells1 slots1 pc1 : Nat) (sl1 : Array Slot), F v w1 → am_Sm sc tc D A s r1 w1 H1 locs1 → (∀ a, a ≤ n → r1 a = r a) → n ≤ w1.length → am_wo w1.length v → cells1 ≤ mc → slots1 ≤ ms → am_ret M pc1 v →
    W p l e R s m args below meth c H1 locs1 cells1 slots1 Q (F0 m pc1 sl1 ((v.map (am_cv r1)).toList))
/-- the walk of M from pc, with these locals, this stack, this world: it ends, and F says how; it makes at most bc cells of bs slots, and calls at most d deep -/
def am_Wp (sc : am_S) (M : am_M) (d bc bs pc : Nat) (ls : am_L) (st : List Value) (w : am_W) (F : Option Value → am_W → Prop) : Prop :=
  ∀ (p : Program) (l : Launch) (e : Env) (R : Room) (s : State) (m : MethodId) (args : Array Value) (below : List Frame) (meth : Method) (c : Code) (Q : State → Prop) (tc : Nat → ClassId) (D : va_G) (A : Nat → Prop),
    am_Cx M d tc D A p R s m args meth c → ∀ (r : Nat → Nat) (H : Heap) (locs : List Loc) (cells slots mc ms : Nat) (sl : Array Slot), am_Sm sc tc D A s r w H locs → lv_has sl M.2.2.1 (am_cl r ls) → am_wl w.length ls → am_ws w.length st → cells + bc ≤ mc → slots + bs ≤ ms → mc ≤ R.cells → ms ≤ R.slots →
    am_End sc M p l e R s m args below meth c Q tc D A mc ms r w.length F →
    W p l e R s m args below meth c H locs cells slots Q (F0 m pc sl (st.map (am_cv r)))
end
section
/-! THE RULES: one instruction each -/
theorem am_pure {sc : am_S} {M : am_M} {d bc bs pc q : Nat} {ls : am_L} {st st' : List Value} {w : am_W} {F : Option Value → am_W → Prop} (k : am_Wp sc M d bc bs q ls st' w F) (hst : ∀ n, am_wl n ls → am_ws n st → am_ws n st')
    (hW : ∀ (p : Program) (l : Launch) (e : Env) (R : Room) (s : State) (m : MethodId) (args : Array Value) (below : List Frame) (meth : Method) (c : Code) (H : Heap) (locs : List Loc) (cells slots : Nat) (Q : State → Prop) (r : Nat → Nat) (sl : Array Slot), p.tables.exec = Jvm.exec → c.code = M.2.1 → lv_has sl M.2.2.1 (am_cl r ls) → s.vm.findClass M.1.cls = some m.cls → (∀ x ∈ am_good, x.before args s = true) → W p l e R s m args below meth c H locs cells slots Q (F0 m q sl (st'.map (am_cv r))) → W p l e R s m args below meth c H locs cells slots Q (F0 m pc sl (st.map (am_cv r)))) : am_Wp sc M d bc bs pc ls st w F := by
  intro p l e R s m args below meth c Q tc D A C r H locs cells slots mc ms sl hS hl wl ws h1 h2 h3 h4 hE
  exact hW p l e R s m args below meth c H locs cells slots Q r sl C.1 C.2.1 hl C.2.2.2.2.1 C.2.2.2.2.2.1 (k p l e R s m args below meth c Q tc D A C r H locs cells slots mc ms sl hS hl wl (hst _ wl ws) h1 h2 h3 h4 hE)
/-- the value of a local -/
def am_get (i : Nat) : am_L → Option Value
  | [] => none
  | q :: l => if q.1 = i then some q.2 else am_get i l
theorem am_get_mem {i : Nat} {v : Value} : ∀ {l : am_L}, am_get i l = some v → (i, v) ∈ l
  | q :: l, h => by
    unfold am_get at h
    by_cases hq : q.1 = i
    · rw [if_pos hq] at h
      rw [← hq, ← Option.some.inj h]
      exact List.mem_cons_self
    · rw [if_neg hq] at h
      exact List.mem_cons_of_mem _ (am_get_mem h)
theorem am_get_at {i : Nat} {v : Value} {l : am_L} {r : Nat → Nat} {sl : Array Slot} {n : Nat} (h : am_get i l = some v) (hl : lv_has sl n (am_cl r l)) : sl[i]? = some (.val (am_cv r v)) :=
  hl.2.2 (i, am_cv r v) (List.mem_map.mpr ⟨(i, v), am_get_mem h, rfl⟩)
theorem am_get_w {i n : Nat} {v : Value} {l : am_L} (h : am_get i l = some v) (hl : am_wl n l) : am_wv n v := am_wl_mem hl (am_get_mem h)
/-- a local is written -/
def am_kp (i : Nat) (v : Value) (q : Nat × Value) : Bool := !(q.1 == i) && (!(v.category == 2 && q.1 == i + 1) && !(q.1 + 1 == i && q.2.category == 2))
def am_ins (i : Nat) (v : Value) : am_L → am_L
  | [] => [(i, v)]
  | q :: l => if q.1 < i then q :: am_ins i v l else (i, v) :: q :: l
def am_sto (i : Nat) (v : Value) (l : am_L) : am_L := am_ins i v (l.filter (am_kp i v))
theorem am_ins_mem {i : Nat} {v : Value} {q : Nat × Value} : ∀ {l : am_L}, q ∈ am_ins i v l → q = (i, v) ∨ q ∈ l
  | [], h => Or.inl (List.mem_singleton.mp h)
  | x :: l, h => by
    unfold am_ins at h
    by_cases hx : x.1 < i
    · rw [if_pos hx] at h
      rcases List.mem_cons.mp h with rfl | h
      · exact Or.inr List.mem_cons_self
      · rcases am_ins_mem h with h | h
        · exact Or.inl h
        · exact Or.inr (List.mem_cons_of_mem _ h)
    · rw [if_neg hx] at h
      rcases List.mem_cons.mp h with rfl | h
      · exact Or.inl rfl
      · exact Or.inr h
theorem am_sto_mem {i : Nat} {v : Value} {l : am_L} {q : Nat × Value} (h : q ∈ am_sto i v l) : q = (i, v) ∨ (q ∈ l ∧ am_kp i v q = true) := by
  rcases am_ins_mem h with h | h
  · exact Or.inl h
  · exact Or.inr (List.mem_filter.mp h)
theorem am_cv_cat (r : Nat → Nat) (v : Value) : (am_cv r v).category = v.category := by cases v <;> rfl
theorem am_sto_w {i n : Nat} {v : Value} {l : am_L} (hl : am_wl n l) (hv : am_wv n v) : am_wl n (am_sto i v l) := by
  refine am_wl_of (fun q hq => ?_)
  rcases am_sto_mem hq with rfl | ⟨h, -⟩
  · exact hv
  · exact am_wl_mem hl h
theorem am_sto1 {i n : Nat} {v : Value} {l : am_L} {r : Nat → Nat} {sl : Array Slot} (h : lv_has sl n ((i, am_cv r v) :: (am_cl r l).filter (fun q => !(q.1 == i) && !(q.1 + 1 == i && q.2.category == 2)))) : lv_has sl n (am_cl r (am_sto i v l)) := by
  refine ⟨h.1, h.2.1, fun q hq => h.2.2 q ?_⟩
  obtain ⟨x, hx, rfl⟩ := List.mem_map.mp hq
  rcases am_sto_mem hx with rfl | ⟨h1, h2⟩
  · exact List.mem_cons_self
  · refine List.mem_cons_of_mem _ (List.mem_filter.mpr ⟨List.mem_map.mpr ⟨x, h1, rfl⟩, ?_⟩)
    simp only [am_kp, Bool.and_eq_true] at h2
    simp only [am_cv_cat, Bool.and_eq_true]
    exact ⟨h2.1, h2.2.2⟩
theorem am_sto2 {i n : Nat} {v : Value} {l : am_L} {r : Nat → Nat} {sl : Array Slot} (hv : v.category = 2) (h : lv_has sl n ((i, am_cv r v) :: (am_cl r l).filter (fun q => !(q.1 == i) && (!(q.1 == i + 1) && !(q.1 + 1 == i && q.2.category == 2))))) : lv_has sl n (am_cl r (am_sto i v l)) := by
  refine ⟨h.1, h.2.1, fun q hq => h.2.2 q ?_⟩
  obtain ⟨x, hx, rfl⟩ := List.mem_map.mp hq
  rcases am_sto_mem hx with rfl | ⟨h1, h2⟩
  · exact List.mem_cons_self
  · refine List.mem_cons_of_mem _ (List.mem_filter.mpr ⟨List.mem_map.mpr ⟨x, h1, rfl⟩, ?_⟩)
    simp only [am_kp, Bool.and_eq_true, hv, beq_self_eq_true, Bool.true_and] at h2
    simp only [am_cv_cat, Bool.and_eq_true]
    exact ⟨h2.1, h2.2.1, h2.2.2⟩
section Rules
variable {sc : am_S} {M : am_M} {d bc bs pc q : Nat} {ls : am_L} {st : List Value} {w : am_W} {F : Option Value → am_W → Prop}
theorem wp_iconst {n : Int} {v : Int32} (hd : decode M.2.1 pc = .ok (.iconst n, 1)) (hq : pc + 1 = q) (hv : Int32.ofInt n = v) (k : am_Wp sc M d bc bs q ls (.int v :: st) w F) : am_Wp sc M d bc bs pc ls (st) w F := by
  subst hq
  exact am_pure k (fun n wl ws => ⟨trivial, ws⟩) (fun p l e R s m args below meth c H locs cells slots Q r sl hx hb hl ho ht kk => lv_iconst hx hb hd hv kk)
theorem wp_bipush {n : Int} {v : Int32} (hd : decode M.2.1 pc = .ok (.bipush n, 2)) (hq : pc + 2 = q) (hv : (Int8.ofInt n).toInt32 = v) (k : am_Wp sc M d bc bs q ls (.int v :: st) w F) : am_Wp sc M d bc bs pc ls (st) w F := by
  subst hq
  exact am_pure k (fun n wl ws => ⟨trivial, ws⟩) (fun p l e R s m args below meth c H locs cells slots Q r sl hx hb hl ho ht kk => lv_bipush hx hb hd hv kk)
theorem wp_sipush {n : Int} {v : Int32} (hd : decode M.2.1 pc = .ok (.sipush n, 3)) (hq : pc + 3 = q) (hv : (Int16.ofInt n).toInt32 = v) (k : am_Wp sc M d bc bs q ls (.int v :: st) w F) : am_Wp sc M d bc bs pc ls (st) w F := by
  subst hq
  exact am_pure k (fun n wl ws => ⟨trivial, ws⟩) (fun p l e R s m args below meth c H locs cells slots Q r sl hx hb hl ho ht kk => lv_sipush hx hb hd hv kk)
theorem wp_lconst {n : Fin 2} {v : Int64} (hd : decode M.2.1 pc = .ok (.lconst n, 1)) (hq : pc + 1 = q) (hv : Int64.ofNat (n : Nat) = v) (k : am_Wp sc M d bc bs q ls (.long v :: st) w F) : am_Wp sc M d bc bs pc ls (st) w F := by
  subst hq
  exact am_pure k (fun n wl ws => ⟨trivial, ws⟩) (fun p l e R s m args below meth c H locs cells slots Q r sl hx hb hl ho ht kk => lv_lconst hx hb hd hv kk)
theorem wp_ldc {ix : Nat} {v : Int32} (hd : decode M.2.1 pc = .ok (.ldc ix, 2)) (hq : pc + 2 = q) (hc : Cond.constant M.1.cls ix v ∈ lw_tbl) (k : am_Wp sc M d bc bs q ls (.int v :: st) w F) : am_Wp sc M d bc bs pc ls (st) w F := by
  subst hq
  exact am_pure k (fun n wl ws => ⟨trivial, ws⟩) (fun p l e R s m args below meth c H locs cells slots Q r sl hx hb hl ho ht kk => lv_ldc hx hb ho (ht _ (am_in hc rfl)) hd kk)
theorem wp_ldcw {ix : Nat} {v : Int32} (hd : decode M.2.1 pc = .ok (.ldc_w ix, 3)) (hq : pc + 3 = q) (hc : Cond.constant M.1.cls ix v ∈ lw_tbl) (k : am_Wp sc M d bc bs q ls (.int v :: st) w F) : am_Wp sc M d bc bs pc ls (st) w F := by
  subst hq
  exact am_pure k (fun n wl ws => ⟨trivial, ws⟩) (fun p l e R s m args below meth c H locs cells slots Q r sl hx hb hl ho ht kk => lv_ldcw hx hb ho (ht _ (am_in hc rfl)) hd kk)
theorem wp_ldc2 {ix : Nat} {v : Int64} (hd : decode M.2.1 pc = .ok (.ldc2_w ix, 3)) (hq : pc + 3 = q) (hc : Cond.constantLong M.1.cls ix v ∈ lw_tbl) (k : am_Wp sc M d bc bs q ls (.long v :: st) w F) : am_Wp sc M d bc bs pc ls (st) w F := by
  subst hq
  exact am_pure k (fun n wl ws => ⟨trivial, ws⟩) (fun p l e R s m args below meth c H locs cells slots Q r sl hx hb hl ho ht kk => lv_ldc2 hx hb ho (ht _ (am_in hc rfl)) hd kk)
theorem wp_iload_n {j : Fin 4} {i : Nat} {x : Int32} (hd : decode M.2.1 pc = .ok (.iload_n j, 1)) (hq : pc + 1 = q) (hi : (j : Nat) = i) (hv : am_get i ls = some (.int x)) (k : am_Wp sc M d bc bs q ls (.int x :: st) w F) : am_Wp sc M d bc bs pc ls (st) w F := by
  subst hq
  exact am_pure k (fun n wl ws => ⟨trivial, ws⟩) (fun p l e R s m args below meth c H locs cells slots Q r sl hx hb hl ho ht kk => lv_iload_n hx hb hd hi (am_get_at hv hl) kk)
theorem wp_iload {i : Nat} {x : Int32} (hd : decode M.2.1 pc = .ok (.iload i, 2)) (hq : pc + 2 = q) (hv : am_get i ls = some (.int x)) (k : am_Wp sc M d bc bs q ls (.int x :: st) w F) : am_Wp sc M d bc bs pc ls (st) w F := by
  subst hq
  exact am_pure k (fun n wl ws => ⟨trivial, ws⟩) (fun p l e R s m args below meth c H locs cells slots Q r sl hx hb hl ho ht kk => lv_iload hx hb hd (am_get_at hv hl) kk)
theorem wp_lload_n {j : Fin 4} {i : Nat} {x : Int64} (hd : decode M.2.1 pc = .ok (.lload_n j, 1)) (hq : pc + 1 = q) (hi : (j : Nat) = i) (hv : am_get i ls = some (.long x)) (k : am_Wp sc M d bc bs q ls (.long x :: st) w F) : am_Wp sc M d bc bs pc ls (st) w F := by
  subst hq
  exact am_pure k (fun n wl ws => ⟨trivial, ws⟩) (fun p l e R s m args below meth c H locs cells slots Q r sl hx hb hl ho ht kk => lv_lload_n hx hb hd hi (am_get_at hv hl) kk)
theorem wp_lload {i : Nat} {x : Int64} (hd : decode M.2.1 pc = .ok (.lload i, 2)) (hq : pc + 2 = q) (hv : am_get i ls = some (.long x)) (k : am_Wp sc M d bc bs q ls (.long x :: st) w F) : am_Wp sc M d bc bs pc ls (st) w F := by
  subst hq
  exact am_pure k (fun n wl ws => ⟨trivial, ws⟩) (fun p l e R s m args below meth c H locs cells slots Q r sl hx hb hl ho ht kk => lv_lload hx hb hd (am_get_at hv hl) kk)
theorem wp_aload_n {j : Fin 4} {i a : Nat} (hd : decode M.2.1 pc = .ok (.aload_n j, 1)) (hq : pc + 1 = q) (hi : (j : Nat) = i) (hv : am_get i ls = some (.ref a)) (k : am_Wp sc M d bc bs q ls (.ref a :: st) w F) : am_Wp sc M d bc bs pc ls (st) w F := by
  subst hq
  exact am_pure k (fun n wl ws => ⟨am_get_w hv wl, ws⟩) (fun p l e R s m args below meth c H locs cells slots Q r sl hx hb hl ho ht kk => lv_aload_n hx hb hd hi (am_get_at hv hl) kk)
theorem wp_aload {i a : Nat} (hd : decode M.2.1 pc = .ok (.aload i, 2)) (hq : pc + 2 = q) (hv : am_get i ls = some (.ref a)) (k : am_Wp sc M d bc bs q ls (.ref a :: st) w F) : am_Wp sc M d bc bs pc ls (st) w F := by
  subst hq
  exact am_pure k (fun n wl ws => ⟨am_get_w hv wl, ws⟩) (fun p l e R s m args below meth c H locs cells slots Q r sl hx hb hl ho ht kk => lv_aload hx hb hd (am_get_at hv hl) kk)
theorem wp_aload_nX {j : Fin 4} {i a : Nat} (hd : decode M.2.1 pc = .ok (.aload_n j, 1)) (hq : pc + 1 = q) (hi : (j : Nat) = i) (hv : am_get i ls = some (.retAddr a)) (k : am_Wp sc M d bc bs q ls (.retAddr a :: st) w F) : am_Wp sc M d bc bs pc ls (st) w F := by
  subst hq
  exact am_pure k (fun n wl ws => ⟨trivial, ws⟩) (fun p l e R s m args below meth c H locs cells slots Q r sl hx hb hl ho ht kk => lv_aload_n hx hb hd hi (am_get_at hv hl) kk)
theorem wp_iadd {x y : Int32} (hd : decode M.2.1 pc = .ok (.iadd, 1)) (hq : pc + 1 = q) (k : am_Wp sc M d bc bs q ls (.int (x + y) :: st) w F) : am_Wp sc M d bc bs pc ls (.int y :: .int x :: st) w F := by
  subst hq
  exact am_pure k (fun n wl ws => ⟨trivial, ws.2.2⟩) (fun p l e R s m args below meth c H locs cells slots Q r sl hx hb hl ho ht kk => lv_iadd hx hb hd kk)
theorem wp_isub {x y : Int32} (hd : decode M.2.1 pc = .ok (.isub, 1)) (hq : pc + 1 = q) (k : am_Wp sc M d bc bs q ls (.int (x - y) :: st) w F) : am_Wp sc M d bc bs pc ls (.int y :: .int x :: st) w F := by
  subst hq
  exact am_pure k (fun n wl ws => ⟨trivial, ws.2.2⟩) (fun p l e R s m args below meth c H locs cells slots Q r sl hx hb hl ho ht kk => lv_isub hx hb hd kk)
theorem wp_imul {x y : Int32} (hd : decode M.2.1 pc = .ok (.imul, 1)) (hq : pc + 1 = q) (k : am_Wp sc M d bc bs q ls (.int (x * y) :: st) w F) : am_Wp sc M d bc bs pc ls (.int y :: .int x :: st) w F := by
  subst hq
  exact am_pure k (fun n wl ws => ⟨trivial, ws.2.2⟩) (fun p l e R s m args below meth c H locs cells slots Q r sl hx hb hl ho ht kk => lv_imul hx hb hd kk)
theorem wp_iand {x y : Int32} (hd : decode M.2.1 pc = .ok (.iand, 1)) (hq : pc + 1 = q) (k : am_Wp sc M d bc bs q ls (.int (x &&& y) :: st) w F) : am_Wp sc M d bc bs pc ls (.int y :: .int x :: st) w F := by
  subst hq
  exact am_pure k (fun n wl ws => ⟨trivial, ws.2.2⟩) (fun p l e R s m args below meth c H locs cells slots Q r sl hx hb hl ho ht kk => lv_iand hx hb hd kk)
theorem wp_ior {x y : Int32} (hd : decode M.2.1 pc = .ok (.ior, 1)) (hq : pc + 1 = q) (k : am_Wp sc M d bc bs q ls (.int (x ||| y) :: st) w F) : am_Wp sc M d bc bs pc ls (.int y :: .int x :: st) w F := by
  subst hq
  exact am_pure k (fun n wl ws => ⟨trivial, ws.2.2⟩) (fun p l e R s m args below meth c H locs cells slots Q r sl hx hb hl ho ht kk => lv_ior hx hb hd kk)
theorem wp_ixor {x y : Int32} (hd : decode M.2.1 pc = .ok (.ixor, 1)) (hq : pc + 1 = q) (k : am_Wp sc M d bc bs q ls (.int (x ^^^ y) :: st) w F) : am_Wp sc M d bc bs pc ls (.int y :: .int x :: st) w F := by
  subst hq
  exact am_pure k (fun n wl ws => ⟨trivial, ws.2.2⟩) (fun p l e R s m args below meth c H locs cells slots Q r sl hx hb hl ho ht kk => lv_ixor hx hb hd kk)
theorem wp_ishl {x y : Int32} (hd : decode M.2.1 pc = .ok (.ishl, 1)) (hq : pc + 1 = q) (k : am_Wp sc M d bc bs q ls (.int (x <<< (y &&& 31)) :: st) w F) : am_Wp sc M d bc bs pc ls (.int y :: .int x :: st) w F := by
  subst hq
  exact am_pure k (fun n wl ws => ⟨trivial, ws.2.2⟩) (fun p l e R s m args below meth c H locs cells slots Q r sl hx hb hl ho ht kk => lv_ishl hx hb hd kk)
theorem wp_ishr {x y : Int32} (hd : decode M.2.1 pc = .ok (.ishr, 1)) (hq : pc + 1 = q) (k : am_Wp sc M d bc bs q ls (.int (x >>> (y &&& 31)) :: st) w F) : am_Wp sc M d bc bs pc ls (.int y :: .int x :: st) w F := by
  subst hq
  exact am_pure k (fun n wl ws => ⟨trivial, ws.2.2⟩) (fun p l e R s m args below meth c H locs cells slots Q r sl hx hb hl ho ht kk => lv_ishr hx hb hd kk)
theorem wp_iushr {x y : Int32} (hd : decode M.2.1 pc = .ok (.iushr, 1)) (hq : pc + 1 = q) (k : am_Wp sc M d bc bs q ls (.int ((x.toUInt32 >>> (y.toUInt32 &&& Int32.toUInt32 31)).toInt32) :: st) w F) : am_Wp sc M d bc bs pc ls (.int y :: .int x :: st) w F := by
  subst hq
  exact am_pure k (fun n wl ws => ⟨trivial, ws.2.2⟩) (fun p l e R s m args below meth c H locs cells slots Q r sl hx hb hl ho ht kk => lv_iushr hx hb hd rfl kk)
theorem wp_ineg {x : Int32} (hd : decode M.2.1 pc = .ok (.ineg, 1)) (hq : pc + 1 = q) (k : am_Wp sc M d bc bs q ls (.int (-x) :: st) w F) : am_Wp sc M d bc bs pc ls (.int x :: st) w F := by
  subst hq
  exact am_pure k (fun n wl ws => ⟨trivial, ws.2⟩) (fun p l e R s m args below meth c H locs cells slots Q r sl hx hb hl ho ht kk => lv_ineg hx hb hd kk)
theorem wp_idiv {x y : Int32} (hd : decode M.2.1 pc = .ok (.idiv, 1)) (hq : pc + 1 = q) (hne : ¬ y = 0) (k : am_Wp sc M d bc bs q ls (.int (x / y) :: st) w F) : am_Wp sc M d bc bs pc ls (.int y :: .int x :: st) w F := by
  subst hq
  exact am_pure k (fun n wl ws => ⟨trivial, ws.2.2⟩) (fun p l e R s m args below meth c H locs cells slots Q r sl hx hb hl ho ht kk => lv_idiv hx hb hd hne kk)
theorem wp_irem {x y : Int32} (hd : decode M.2.1 pc = .ok (.irem, 1)) (hq : pc + 1 = q) (hne : ¬ y = 0) (k : am_Wp sc M d bc bs q ls (.int (x - x / y * y) :: st) w F) : am_Wp sc M d bc bs pc ls (.int y :: .int x :: st) w F := by
  subst hq
  exact am_pure k (fun n wl ws => ⟨trivial, ws.2.2⟩) (fun p l e R s m args below meth c H locs cells slots Q r sl hx hb hl ho ht kk => lv_irem hx hb hd hne kk)
theorem wp_ladd {x y : Int64} (hd : decode M.2.1 pc = .ok (.ladd, 1)) (hq : pc + 1 = q) (k : am_Wp sc M d bc bs q ls (.long (x + y) :: st) w F) : am_Wp sc M d bc bs pc ls (.long y :: .long x :: st) w F := by
  subst hq
  exact am_pure k (fun n wl ws => ⟨trivial, ws.2.2⟩) (fun p l e R s m args below meth c H locs cells slots Q r sl hx hb hl ho ht kk => lv_ladd hx hb hd kk)
theorem wp_lsub {x y : Int64} (hd : decode M.2.1 pc = .ok (.lsub, 1)) (hq : pc + 1 = q) (k : am_Wp sc M d bc bs q ls (.long (x - y) :: st) w F) : am_Wp sc M d bc bs pc ls (.long y :: .long x :: st) w F := by
  subst hq
  exact am_pure k (fun n wl ws => ⟨trivial, ws.2.2⟩) (fun p l e R s m args below meth c H locs cells slots Q r sl hx hb hl ho ht kk => lv_lsub hx hb hd kk)
theorem wp_lmul {x y : Int64} (hd : decode M.2.1 pc = .ok (.lmul, 1)) (hq : pc + 1 = q) (k : am_Wp sc M d bc bs q ls (.long (x * y) :: st) w F) : am_Wp sc M d bc bs pc ls (.long y :: .long x :: st) w F := by
  subst hq
  exact am_pure k (fun n wl ws => ⟨trivial, ws.2.2⟩) (fun p l e R s m args below meth c H locs cells slots Q r sl hx hb hl ho ht kk => lv_lmul hx hb hd kk)
theorem wp_land {x y : Int64} (hd : decode M.2.1 pc = .ok (.land, 1)) (hq : pc + 1 = q) (k : am_Wp sc M d bc bs q ls (.long (x &&& y) :: st) w F) : am_Wp sc M d bc bs pc ls (.long y :: .long x :: st) w F := by
  subst hq
  exact am_pure k (fun n wl ws => ⟨trivial, ws.2.2⟩) (fun p l e R s m args below meth c H locs cells slots Q r sl hx hb hl ho ht kk => lv_land hx hb hd kk)
theorem wp_lor {x y : Int64} (hd : decode M.2.1 pc = .ok (.lor, 1)) (hq : pc + 1 = q) (k : am_Wp sc M d bc bs q ls (.long (x ||| y) :: st) w F) : am_Wp sc M d bc bs pc ls (.long y :: .long x :: st) w F := by
  subst hq
  exact am_pure k (fun n wl ws => ⟨trivial, ws.2.2⟩) (fun p l e R s m args below meth c H locs cells slots Q r sl hx hb hl ho ht kk => lv_lor hx hb hd kk)
theorem wp_lxor {x y : Int64} (hd : decode M.2.1 pc = .ok (.lxor, 1)) (hq : pc + 1 = q) (k : am_Wp sc M d bc bs q ls (.long (x ^^^ y) :: st) w F) : am_Wp sc M d bc bs pc ls (.long y :: .long x :: st) w F := by
  subst hq
  exact am_pure k (fun n wl ws => ⟨trivial, ws.2.2⟩) (fun p l e R s m args below meth c H locs cells slots Q r sl hx hb hl ho ht kk => lv_lxor hx hb hd kk)
theorem wp_lshl {x : Int64} {y : Int32} (hd : decode M.2.1 pc = .ok (.lshl, 1)) (hq : pc + 1 = q) (k : am_Wp sc M d bc bs q ls (.long (x <<< (y.toInt64 &&& 63)) :: st) w F) : am_Wp sc M d bc bs pc ls (.int y :: .long x :: st) w F := by
  subst hq
  exact am_pure k (fun n wl ws => ⟨trivial, ws.2.2⟩) (fun p l e R s m args below meth c H locs cells slots Q r sl hx hb hl ho ht kk => lv_lshl hx hb hd rfl kk)
theorem wp_lshr {x : Int64} {y : Int32} (hd : decode M.2.1 pc = .ok (.lshr, 1)) (hq : pc + 1 = q) (k : am_Wp sc M d bc bs q ls (.long (x >>> (y.toInt64 &&& 63)) :: st) w F) : am_Wp sc M d bc bs pc ls (.int y :: .long x :: st) w F := by
  subst hq
  exact am_pure k (fun n wl ws => ⟨trivial, ws.2.2⟩) (fun p l e R s m args below meth c H locs cells slots Q r sl hx hb hl ho ht kk => lv_lshr hx hb hd rfl kk)
theorem wp_i2l {x : Int32} (hd : decode M.2.1 pc = .ok (.i2l, 1)) (hq : pc + 1 = q) (k : am_Wp sc M d bc bs q ls (.long x.toInt64 :: st) w F) : am_Wp sc M d bc bs pc ls (.int x :: st) w F := by
  subst hq
  exact am_pure k (fun n wl ws => ⟨trivial, ws.2⟩) (fun p l e R s m args below meth c H locs cells slots Q r sl hx hb hl ho ht kk => lv_i2l hx hb hd rfl kk)
theorem wp_l2i {x : Int64} (hd : decode M.2.1 pc = .ok (.l2i, 1)) (hq : pc + 1 = q) (k : am_Wp sc M d bc bs q ls (.int x.toInt32 :: st) w F) : am_Wp sc M d bc bs pc ls (.long x :: st) w F := by
  subst hq
  exact am_pure k (fun n wl ws => ⟨trivial, ws.2⟩) (fun p l e R s m args below meth c H locs cells slots Q r sl hx hb hl ho ht kk => lv_l2i hx hb hd rfl kk)
theorem wp_lcmp {x y : Int64} (hd : decode M.2.1 pc = .ok (.lcmp, 1)) (hq : pc + 1 = q) (k : am_Wp sc M d bc bs q ls (.int (lg_cmp x y) :: st) w F) : am_Wp sc M d bc bs pc ls (.long y :: .long x :: st) w F := by
  subst hq
  exact am_pure k (fun n wl ws => ⟨trivial, ws.2.2⟩) (fun p l e R s m args below meth c H locs cells slots Q r sl hx hb hl ho ht kk => W.lcmp hx hb hd kk)
theorem wp_dup {v : Value} (hd : decode M.2.1 pc = .ok (.dup, 1)) (hq : pc + 1 = q) (hv : v.category = 1) (k : am_Wp sc M d bc bs q ls (v :: v :: st) w F) : am_Wp sc M d bc bs pc ls (v :: st) w F := by
  subst hq
  exact am_pure k (fun n wl ws => ⟨ws.1, ws⟩) (fun p l e R s m args below meth c H locs cells slots Q r sl hx hb hl ho ht kk => lv_dup hx hb hd ((am_cv_cat r v).trans hv) kk)
theorem wp_pop {v : Value} (hd : decode M.2.1 pc = .ok (.pop, 1)) (hq : pc + 1 = q) (hv : v.category = 1) (k : am_Wp sc M d bc bs q ls (st) w F) : am_Wp sc M d bc bs pc ls (v :: st) w F := by
  subst hq
  exact am_pure k (fun n wl ws => ws.2) (fun p l e R s m args below meth c H locs cells slots Q r sl hx hb hl ho ht kk => lv_pop hx hb hd ((am_cv_cat r v).trans hv) kk)
theorem wp_dup_x1 {v u : Value} (hd : decode M.2.1 pc = .ok (.dup_x1, 1)) (hq : pc + 1 = q) (hv : v.category = 1) (hu : u.category = 1) (k : am_Wp sc M d bc bs q ls (v :: u :: v :: st) w F) : am_Wp sc M d bc bs pc ls (v :: u :: st) w F := by
  subst hq
  exact am_pure k (fun n wl ws => ⟨ws.1, ws.2.1, ws.1, ws.2.2⟩) (fun p l e R s m args below meth c H locs cells slots Q r sl hx hb hl ho ht kk => lv_dup_x1 hx hb hd ((am_cv_cat r v).trans hv) ((am_cv_cat r u).trans hu) kk)
theorem wp_dup_x2 {v u t : Value} (hd : decode M.2.1 pc = .ok (.dup_x2, 1)) (hq : pc + 1 = q) (hv : v.category = 1) (hu : u.category = 1) (htt : t.category = 1) (k : am_Wp sc M d bc bs q ls (v :: u :: t :: v :: st) w F) : am_Wp sc M d bc bs pc ls (v :: u :: t :: st) w F := by
  subst hq
  exact am_pure k (fun n wl ws => ⟨ws.1, ws.2.1, ws.2.2.1, ws.1, ws.2.2.2⟩) (fun p l e R s m args below meth c H locs cells slots Q r sl hx hb hl ho ht kk => lv_dup_x2 hx hb hd ((am_cv_cat r v).trans hv) ((am_cv_cat r u).trans hu) ((am_cv_cat r t).trans htt) kk)
theorem wp_dup2 {v u : Value} (hd : decode M.2.1 pc = .ok (.dup2, 1)) (hq : pc + 1 = q) (hv : v.category = 1) (hu : u.category = 1) (k : am_Wp sc M d bc bs q ls (v :: u :: v :: u :: st) w F) : am_Wp sc M d bc bs pc ls (v :: u :: st) w F := by
  subst hq
  exact am_pure k (fun n wl ws => ⟨ws.1, ws.2.1, ws⟩) (fun p l e R s m args below meth c H locs cells slots Q r sl hx hb hl ho ht kk => lv_dup2_11 hx hb hd ((am_cv_cat r v).trans hv) ((am_cv_cat r u).trans hu) kk)
theorem wp_dup2L {v : Value} (hd : decode M.2.1 pc = .ok (.dup2, 1)) (hq : pc + 1 = q) (hv : v.category = 2) (k : am_Wp sc M d bc bs q ls (v :: v :: st) w F) : am_Wp sc M d bc bs pc ls (v :: st) w F := by
  subst hq
  exact am_pure k (fun n wl ws => ⟨ws.1, ws⟩) (fun p l e R s m args below meth c H locs cells slots Q r sl hx hb hl ho ht kk => lv_dup2_2 hx hb hd ((am_cv_cat r v).trans hv) kk)
theorem wp_pop2L {v : Value} (hd : decode M.2.1 pc = .ok (.pop2, 1)) (hq : pc + 1 = q) (hv : v.category = 2) (k : am_Wp sc M d bc bs q ls (st) w F) : am_Wp sc M d bc bs pc ls (v :: st) w F := by
  subst hq
  exact am_pure k (fun n wl ws => ws.2) (fun p l e R s m args below meth c H locs cells slots Q r sl hx hb hl ho ht kk => lv_pop2_2 hx hb hd ((am_cv_cat r v).trans hv) kk)
theorem wp_istore_n {j : Fin 4} {i : Nat} {x : Int32} {ls' : am_L} (hd : decode M.2.1 pc = .ok (.istore_n j, 1)) (hq : pc + 1 = q) (hi : (j : Nat) = i) (hn : i < M.2.2.1) (hl' : am_sto i (.int x) ls = ls') (k : am_Wp sc M d bc bs q ls' st w F) : am_Wp sc M d bc bs pc ls ((.int x) :: st) w F := by
  subst hq
  subst hl'
  intro p l e R s m args below meth c Q tc D A C r H locs cells slots mc ms sl hS hl wl ws h1 h2 h3 h4 hE
  exact lv_istore_n C.1 C.2.1 hd hi hl hn rfl (fun sl' h' => k p l e R s m args below meth c Q tc D A C r H locs cells slots mc ms sl' hS (am_sto1 h') (am_sto_w wl ws.1) ws.2 h1 h2 h3 h4 hE)
theorem wp_istore {i : Nat} {x : Int32} {ls' : am_L} (hd : decode M.2.1 pc = .ok (.istore i, 2)) (hq : pc + 2 = q) (hn : i < M.2.2.1) (hl' : am_sto i (.int x) ls = ls') (k : am_Wp sc M d bc bs q ls' st w F) : am_Wp sc M d bc bs pc ls ((.int x) :: st) w F := by
  subst hq
  subst hl'
  intro p l e R s m args below meth c Q tc D A C r H locs cells slots mc ms sl hS hl wl ws h1 h2 h3 h4 hE
  exact lv_istore C.1 C.2.1 hd hl hn rfl (fun sl' h' => k p l e R s m args below meth c Q tc D A C r H locs cells slots mc ms sl' hS (am_sto1 h') (am_sto_w wl ws.1) ws.2 h1 h2 h3 h4 hE)
theorem wp_lstore_n {j : Fin 4} {i : Nat} {x : Int64} {ls' : am_L} (hd : decode M.2.1 pc = .ok (.lstore_n j, 1)) (hq : pc + 1 = q) (hi : (j : Nat) = i) (hn : i + 1 < M.2.2.1) (hl' : am_sto i (.long x) ls = ls') (k : am_Wp sc M d bc bs q ls' st w F) : am_Wp sc M d bc bs pc ls ((.long x) :: st) w F := by
  subst hq
  subst hl'
  intro p l e R s m args below meth c Q tc D A C r H locs cells slots mc ms sl hS hl wl ws h1 h2 h3 h4 hE
  exact lv_lstore_n C.1 C.2.1 hd hi hl hn rfl (fun sl' h' => k p l e R s m args below meth c Q tc D A C r H locs cells slots mc ms sl' hS (am_sto2 rfl h') (am_sto_w wl ws.1) ws.2 h1 h2 h3 h4 hE)
theorem wp_lstore {i : Nat} {x : Int64} {ls' : am_L} (hd : decode M.2.1 pc = .ok (.lstore i, 2)) (hq : pc + 2 = q) (hn : i + 1 < M.2.2.1) (hl' : am_sto i (.long x) ls = ls') (k : am_Wp sc M d bc bs q ls' st w F) : am_Wp sc M d bc bs pc ls ((.long x) :: st) w F := by
  subst hq
  subst hl'
  intro p l e R s m args below meth c Q tc D A C r H locs cells slots mc ms sl hS hl wl ws h1 h2 h3 h4 hE
  exact lv_lstore C.1 C.2.1 hd hl hn rfl (fun sl' h' => k p l e R s m args below meth c Q tc D A C r H locs cells slots mc ms sl' hS (am_sto2 rfl h') (am_sto_w wl ws.1) ws.2 h1 h2 h3 h4 hE)
theorem wp_astore_n {j : Fin 4} {i a : Nat} {ls' : am_L} (hd : decode M.2.1 pc = .ok (.astore_n j, 1)) (hq : pc + 1 = q) (hi : (j : Nat) = i) (hn : i < M.2.2.1) (hl' : am_sto i (.ref a) ls = ls') (k : am_Wp sc M d bc bs q ls' st w F) : am_Wp sc M d bc bs pc ls ((.ref a) :: st) w F := by
  subst hq
  subst hl'
  intro p l e R s m args below meth c Q tc D A C r H locs cells slots mc ms sl hS hl wl ws h1 h2 h3 h4 hE
  exact lv_astore_n C.1 C.2.1 hd hi hl hn rfl (fun sl' h' => k p l e R s m args below meth c Q tc D A C r H locs cells slots mc ms sl' hS (am_sto1 h') (am_sto_w wl ws.1) ws.2 h1 h2 h3 h4 hE)
theorem wp_astore {i a : Nat} {ls' : am_L} (hd : decode M.2.1 pc = .ok (.astore i, 2)) (hq : pc + 2 = q) (hn : i < M.2.2.1) (hl' : am_sto i (.ref a) ls = ls') (k : am_Wp sc M d bc bs q ls' st w F) : am_Wp sc M d bc bs pc ls ((.ref a) :: st) w F := by
  subst hq
  subst hl'
  intro p l e R s m args below meth c Q tc D A C r H locs cells slots mc ms sl hS hl wl ws h1 h2 h3 h4 hE
  exact lv_astore C.1 C.2.1 hd hl hn rfl (fun sl' h' => k p l e R s m args below meth c Q tc D A C r H locs cells slots mc ms sl' hS (am_sto1 h') (am_sto_w wl ws.1) ws.2 h1 h2 h3 h4 hE)
theorem am_cl_get {i : Nat} {v : Value} {l : am_L} {r : Nat → Nat} (h : am_get i l = some v) : ∃ k : Nat, (am_cl r l)[k]? = some (i, am_cv r v) :=
  List.getElem?_of_mem (List.mem_map.mpr ⟨(i, v), am_get_mem h, rfl⟩)
theorem wp_iinc {i : Nat} {n : Int} {x v : Int32} {ls' : am_L} (hd : decode M.2.1 pc = .ok (.iinc i n, 3)) (hq : pc + 3 = q) (hg : am_get i ls = some (.int x)) (hv : x + Int32.ofInt n = v) (hn : i < M.2.2.1) (hl' : am_sto i (.int v) ls = ls') (k : am_Wp sc M d bc bs q ls' st w F) : am_Wp sc M d bc bs pc ls st w F := by
  subst hq
  subst hl'
  intro p l e R s m args below meth c Q tc D A C r H locs cells slots mc ms sl hS hl wl ws h1 h2 h3 h4 hE
  obtain ⟨k0, hk0⟩ := am_cl_get (r := r) hg
  exact lv_iinc C.1 C.2.1 hd hl hk0 hv hn rfl (fun sl' h' => k p l e R s m args below meth c Q tc D A C r H locs cells slots mc ms sl' hS (am_sto1 h') (am_sto_w wl trivial) ws h1 h2 h3 h4 hE)
theorem wp_inc1 {i : Nat} {x v : Int32} {ls' : am_L} (hd : decode M.2.1 pc = .ok (.iinc i 1, 3)) (hq : pc + 3 = q) (hg : am_get i ls = some (.int x)) (hv : x + 1 = v) (hn : i < M.2.2.1) (hl' : am_sto i (.int v) ls = ls') (k : am_Wp sc M d bc bs q ls' st w F) : am_Wp sc M d bc bs pc ls st w F :=
  wp_iinc hd hq hg (show x + Int32.ofInt 1 = v from hv) hn hl' k
theorem wp_if_eq {x : Int32} {off : Int} {tgt : Nat} (hd : decode M.2.1 pc = .ok (.ifCond .eq off, 3)) (ht : (pc : Int) + off = (tgt : Int)) (hq : pc + 3 = q) (kt : x = 0 → am_Wp sc M d bc bs tgt ls st w F) (kf : ¬ x = 0 → am_Wp sc M d bc bs q ls st w F) : am_Wp sc M d bc bs pc ls (.int x :: st) w F := by
  subst hq
  intro p l e R s m args below meth c Q tc D A C r H locs cells slots mc ms sl hS hl wl ws h1 h2 h3 h4 hE
  exact lv_if_eq C.1 C.2.1 hd ht (fun hc => kt hc p l e R s m args below meth c Q tc D A C r H locs cells slots mc ms sl hS hl wl ws.2 h1 h2 h3 h4 hE) (fun hc => kf hc p l e R s m args below meth c Q tc D A C r H locs cells slots mc ms sl hS hl wl ws.2 h1 h2 h3 h4 hE)
theorem wp_icmp_eq {x y : Int32} {off : Int} {tgt : Nat} (hd : decode M.2.1 pc = .ok (.if_icmp .eq off, 3)) (ht : (pc : Int) + off = (tgt : Int)) (hq : pc + 3 = q) (kt : x = y → am_Wp sc M d bc bs tgt ls st w F) (kf : ¬ x = y → am_Wp sc M d bc bs q ls st w F) : am_Wp sc M d bc bs pc ls (.int y :: .int x :: st) w F := by
  subst hq
  intro p l e R s m args below meth c Q tc D A C r H locs cells slots mc ms sl hS hl wl ws h1 h2 h3 h4 hE
  exact lv_icmp_eq C.1 C.2.1 hd ht (fun hc => kt hc p l e R s m args below meth c Q tc D A C r H locs cells slots mc ms sl hS hl wl ws.2.2 h1 h2 h3 h4 hE) (fun hc => kf hc p l e R s m args below meth c Q tc D A C r H locs cells slots mc ms sl hS hl wl ws.2.2 h1 h2 h3 h4 hE)
theorem wp_if_ne {x : Int32} {off : Int} {tgt : Nat} (hd : decode M.2.1 pc = .ok (.ifCond .ne off, 3)) (ht : (pc : Int) + off = (tgt : Int)) (hq : pc + 3 = q) (kt : ¬ x = 0 → am_Wp sc M d bc bs tgt ls st w F) (kf : x = 0 → am_Wp sc M d bc bs q ls st w F) : am_Wp sc M d bc bs pc ls (.int x :: st) w F := by
  subst hq
  intro p l e R s m args below meth c Q tc D A C r H locs cells slots mc ms sl hS hl wl ws h1 h2 h3 h4 hE
  exact lv_if_ne C.1 C.2.1 hd ht (fun hc => kt hc p l e R s m args below meth c Q tc D A C r H locs cells slots mc ms sl hS hl wl ws.2 h1 h2 h3 h4 hE) (fun hc => kf hc p l e R s m args below meth c Q tc D A C r H locs cells slots mc ms sl hS hl wl ws.2 h1 h2 h3 h4 hE)
theorem wp_icmp_ne {x y : Int32} {off : Int} {tgt : Nat} (hd : decode M.2.1 pc = .ok (.if_icmp .ne off, 3)) (ht : (pc : Int) + off = (tgt : Int)) (hq : pc + 3 = q) (kt : ¬ x = y → am_Wp sc M d bc bs tgt ls st w F) (kf : x = y → am_Wp sc M d bc bs q ls st w F) : am_Wp sc M d bc bs pc ls (.int y :: .int x :: st) w F := by
  subst hq
  intro p l e R s m args below meth c Q tc D A C r H locs cells slots mc ms sl hS hl wl ws h1 h2 h3 h4 hE
  exact lv_icmp_ne C.1 C.2.1 hd ht (fun hc => kt hc p l e R s m args below meth c Q tc D A C r H locs cells slots mc ms sl hS hl wl ws.2.2 h1 h2 h3 h4 hE) (fun hc => kf hc p l e R s m args below meth c Q tc D A C r H locs cells slots mc ms sl hS hl wl ws.2.2 h1 h2 h3 h4 hE)
theorem wp_if_lt {x : Int32} {off : Int} {tgt : Nat} (hd : decode M.2.1 pc = .ok (.ifCond .lt off, 3)) (ht : (pc : Int) + off = (tgt : Int)) (hq : pc + 3 = q) (kt : x < 0 → am_Wp sc M d bc bs tgt ls st w F) (kf : ¬ x < 0 → am_Wp sc M d bc bs q ls st w F) : am_Wp sc M d bc bs pc ls (.int x :: st) w F := by
  subst hq
  intro p l e R s m args below meth c Q tc D A C r H locs cells slots mc ms sl hS hl wl ws h1 h2 h3 h4 hE
  exact lv_if_lt C.1 C.2.1 hd ht (fun hc => kt hc p l e R s m args below meth c Q tc D A C r H locs cells slots mc ms sl hS hl wl ws.2 h1 h2 h3 h4 hE) (fun hc => kf hc p l e R s m args below meth c Q tc D A C r H locs cells slots mc ms sl hS hl wl ws.2 h1 h2 h3 h4 hE)
theorem wp_icmp_lt {x y : Int32} {off : Int} {tgt : Nat} (hd : decode M.2.1 pc = .ok (.if_icmp .lt off, 3)) (ht : (pc : Int) + off = (tgt : Int)) (hq : pc + 3 = q) (kt : x < y → am_Wp sc M d bc bs tgt ls st w F) (kf : ¬ x < y → am_Wp sc M d bc bs q ls st w F) : am_Wp sc M d bc bs pc ls (.int y :: .int x :: st) w F := by
  subst hq
  intro p l e R s m args below meth c Q tc D A C r H locs cells slots mc ms sl hS hl wl ws h1 h2 h3 h4 hE
  exact lv_icmp_lt C.1 C.2.1 hd ht (fun hc => kt hc p l e R s m args below meth c Q tc D A C r H locs cells slots mc ms sl hS hl wl ws.2.2 h1 h2 h3 h4 hE) (fun hc => kf hc p l e R s m args below meth c Q tc D A C r H locs cells slots mc ms sl hS hl wl ws.2.2 h1 h2 h3 h4 hE)
theorem wp_if_ge {x : Int32} {off : Int} {tgt : Nat} (hd : decode M.2.1 pc = .ok (.ifCond .ge off, 3)) (ht : (pc : Int) + off = (tgt : Int)) (hq : pc + 3 = q) (kt : 0 ≤ x → am_Wp sc M d bc bs tgt ls st w F) (kf : ¬ 0 ≤ x → am_Wp sc M d bc bs q ls st w F) : am_Wp sc M d bc bs pc ls (.int x :: st) w F := by
  subst hq
  intro p l e R s m args below meth c Q tc D A C r H locs cells slots mc ms sl hS hl wl ws h1 h2 h3 h4 hE
  exact lv_if_ge C.1 C.2.1 hd ht (fun hc => kt hc p l e R s m args below meth c Q tc D A C r H locs cells slots mc ms sl hS hl wl ws.2 h1 h2 h3 h4 hE) (fun hc => kf hc p l e R s m args below meth c Q tc D A C r H locs cells slots mc ms sl hS hl wl ws.2 h1 h2 h3 h4 hE)
theorem wp_icmp_ge {x y : Int32} {off : Int} {tgt : Nat} (hd : decode M.2.1 pc = .ok (.if_icmp .ge off, 3)) (ht : (pc : Int) + off = (tgt : Int)) (hq : pc + 3 = q) (kt : y ≤ x → am_Wp sc M d bc bs tgt ls st w F) (kf : ¬ y ≤ x → am_Wp sc M d bc bs q ls st w F) : am_Wp sc M d bc bs pc ls (.int y :: .int x :: st) w F := by
  subst hq
  intro p l e R s m args below meth c Q tc D A C r H locs cells slots mc ms sl hS hl wl ws h1 h2 h3 h4 hE
  exact lv_icmp_ge C.1 C.2.1 hd ht (fun hc => kt hc p l e R s m args below meth c Q tc D A C r H locs cells slots mc ms sl hS hl wl ws.2.2 h1 h2 h3 h4 hE) (fun hc => kf hc p l e R s m args below meth c Q tc D A C r H locs cells slots mc ms sl hS hl wl ws.2.2 h1 h2 h3 h4 hE)
theorem wp_if_gt {x : Int32} {off : Int} {tgt : Nat} (hd : decode M.2.1 pc = .ok (.ifCond .gt off, 3)) (ht : (pc : Int) + off = (tgt : Int)) (hq : pc + 3 = q) (kt : 0 < x → am_Wp sc M d bc bs tgt ls st w F) (kf : ¬ 0 < x → am_Wp sc M d bc bs q ls st w F) : am_Wp sc M d bc bs pc ls (.int x :: st) w F := by
  subst hq
  intro p l e R s m args below meth c Q tc D A C r H locs cells slots mc ms sl hS hl wl ws h1 h2 h3 h4 hE
  exact lv_if_gt C.1 C.2.1 hd ht (fun hc => kt hc p l e R s m args below meth c Q tc D A C r H locs cells slots mc ms sl hS hl wl ws.2 h1 h2 h3 h4 hE) (fun hc => kf hc p l e R s m args below meth c Q tc D A C r H locs cells slots mc ms sl hS hl wl ws.2 h1 h2 h3 h4 hE)
theorem wp_icmp_gt {x y : Int32} {off : Int} {tgt : Nat} (hd : decode M.2.1 pc = .ok (.if_icmp .gt off, 3)) (ht : (pc : Int) + off = (tgt : Int)) (hq : pc + 3 = q) (kt : y < x → am_Wp sc M d bc bs tgt ls st w F) (kf : ¬ y < x → am_Wp sc M d bc bs q ls st w F) : am_Wp sc M d bc bs pc ls (.int y :: .int x :: st) w F := by
  subst hq
  intro p l e R s m args below meth c Q tc D A C r H locs cells slots mc ms sl hS hl wl ws h1 h2 h3 h4 hE
  exact lv_icmp_gt C.1 C.2.1 hd ht (fun hc => kt hc p l e R s m args below meth c Q tc D A C r H locs cells slots mc ms sl hS hl wl ws.2.2 h1 h2 h3 h4 hE) (fun hc => kf hc p l e R s m args below meth c Q tc D A C r H locs cells slots mc ms sl hS hl wl ws.2.2 h1 h2 h3 h4 hE)
theorem wp_if_le {x : Int32} {off : Int} {tgt : Nat} (hd : decode M.2.1 pc = .ok (.ifCond .le off, 3)) (ht : (pc : Int) + off = (tgt : Int)) (hq : pc + 3 = q) (kt : x ≤ 0 → am_Wp sc M d bc bs tgt ls st w F) (kf : ¬ x ≤ 0 → am_Wp sc M d bc bs q ls st w F) : am_Wp sc M d bc bs pc ls (.int x :: st) w F := by
  subst hq
  intro p l e R s m args below meth c Q tc D A C r H locs cells slots mc ms sl hS hl wl ws h1 h2 h3 h4 hE
  exact lv_if_le C.1 C.2.1 hd ht (fun hc => kt hc p l e R s m args below meth c Q tc D A C r H locs cells slots mc ms sl hS hl wl ws.2 h1 h2 h3 h4 hE) (fun hc => kf hc p l e R s m args below meth c Q tc D A C r H locs cells slots mc ms sl hS hl wl ws.2 h1 h2 h3 h4 hE)
theorem wp_icmp_le {x y : Int32} {off : Int} {tgt : Nat} (hd : decode M.2.1 pc = .ok (.if_icmp .le off, 3)) (ht : (pc : Int) + off = (tgt : Int)) (hq : pc + 3 = q) (kt : x ≤ y → am_Wp sc M d bc bs tgt ls st w F) (kf : ¬ x ≤ y → am_Wp sc M d bc bs q ls st w F) : am_Wp sc M d bc bs pc ls (.int y :: .int x :: st) w F := by
  subst hq
  intro p l e R s m args below meth c Q tc D A C r H locs cells slots mc ms sl hS hl wl ws h1 h2 h3 h4 hE
  exact lv_icmp_le C.1 C.2.1 hd ht (fun hc => kt hc p l e R s m args below meth c Q tc D A C r H locs cells slots mc ms sl hS hl wl ws.2.2 h1 h2 h3 h4 hE) (fun hc => kf hc p l e R s m args below meth c Q tc D A C r H locs cells slots mc ms sl hS hl wl ws.2.2 h1 h2 h3 h4 hE)
theorem wp_goto {off : Int} {tgt : Nat} (hd : decode M.2.1 pc = .ok (.goto off, 3)) (ht : (pc : Int) + off = (tgt : Int)) (k : am_Wp sc M d bc bs tgt ls st w F) : am_Wp sc M d bc bs pc ls st w F :=
  am_pure k (fun n wl ws => ws) (fun p l e R s m args below meth c H locs cells slots Q r sl hx hb hl ho htt kk => lv_goto hx hb hd ht kk)
theorem wp_tableIn {dflt lo hi off : Int} {offs : Array Int} {len tgt : Nat} {x : Int32} (h1 : ¬ x.toInt < lo) (h2 : ¬ hi < x.toInt) (ho : offs[(x.toInt - lo).toNat]? = some off) (ht : (pc : Int) + off = (tgt : Int)) (hd : decode M.2.1 pc = .ok (.tableswitch dflt lo hi offs, len)) (k : am_Wp sc M d bc bs tgt ls st w F) : am_Wp sc M d bc bs pc ls (.int x :: st) w F :=
  am_pure k (fun n wl ws => ws.2) (fun p l e R s m args below meth c H locs cells slots Q r sl hx hb hl ho1 htt kk => lv_tableIn hx hb hd h1 h2 ho ht kk)
theorem wp_tableOut {dflt lo hi : Int} {offs : Array Int} {len tgt : Nat} {x : Int32} (h : x.toInt < lo ∨ hi < x.toInt) (ht : (pc : Int) + dflt = (tgt : Int)) (hd : decode M.2.1 pc = .ok (.tableswitch dflt lo hi offs, len)) (k : am_Wp sc M d bc bs tgt ls st w F) : am_Wp sc M d bc bs pc ls (.int x :: st) w F :=
  am_pure k (fun n wl ws => ws.2) (fun p l e R s m args below meth c H locs cells slots Q r sl hx hb hl ho1 htt kk => lv_tableOut hx hb hd h ht kk)
theorem am_fin {v : Option Value} (hF : F v w) (hr : am_ret M pc v) : am_Wp sc M d bc bs pc ls v.toList w F := by
  intro p l e R s m args below meth c Q tc D A C r H locs cells slots mc ms sl hS hl wl ws h1 h2 h3 h4 hE
  have hv : am_wo w.length v := fun x hx => by subst hx; exact ws.1
  have h := hE v w r H locs cells slots pc sl hF hS (fun _ _ => rfl) (Nat.le_refl _) hv (by omega) (by omega) hr
  cases v with
  | none => exact h
  | some x => exact h
theorem wp_return (hr : M.2.2.2 = none) (hd : decode M.2.1 pc = .ok (.return_, 1)) (hF : F none w) : am_Wp sc M d bc bs pc ls [] w F :=
  am_fin (v := none) hF (Or.inl ⟨hr, rfl, hd⟩)
theorem wp_ireturn {x : Int32} (hr : M.2.2.2 = some .int) (hd : decode M.2.1 pc = .ok (.ireturn, 1)) (hF : F (some (.int x)) w) : am_Wp sc M d bc bs pc ls [.int x] w F :=
  am_fin (v := some (.int x)) hF (Or.inr (Or.inl ⟨_, _, hr, rfl, rfl, hd⟩))
theorem wp_zreturn {x : Int32} (hr : M.2.2.2 = some .boolean) (hn : narrow .boolean (.int x) = .int x) (hd : decode M.2.1 pc = .ok (.ireturn, 1)) (hF : F (some (.int x)) w) : am_Wp sc M d bc bs pc ls [.int x] w F :=
  am_fin (v := some (.int x)) hF (Or.inr (Or.inl ⟨_, _, hr, rfl, hn, hd⟩))
theorem wp_lreturn {x : Int64} (hr : M.2.2.2 = some .long) (hd : decode M.2.1 pc = .ok (.lreturn, 1)) (hF : F (some (.long x)) w) : am_Wp sc M d bc bs pc ls [.long x] w F :=
  am_fin (v := some (.long x)) hF (Or.inr (Or.inr (Or.inl ⟨_, hr, rfl, hd⟩)))
theorem wp_areturn {a : Nat} {ty : FieldType} (hr : M.2.2.2 = some ty) (hty : (∃ n, ty = .object n) ∨ ∃ t, ty = .array t) (hd : decode M.2.1 pc = .ok (.areturn, 1)) (hF : F (some (.ref a)) w) : am_Wp sc M d bc bs pc ls [.ref a] w F :=
  am_fin (v := some (.ref a)) hF (Or.inr (Or.inr (Or.inr ⟨_, _, hr, hty, rfl, hd⟩)))
theorem am_tys0 (tc : Nat → ClassId) : (am_tys tc)[0]? = some (tc 0, .int) := rfl
theorem am_tys1 (tc : Nat → ClassId) : (am_tys tc)[1]? = some (tc 1, .long) := rfl
theorem am_tys2 (tc : Nat → ClassId) : (am_tys tc)[2]? = some (tc 2, .boolean) := rfl
theorem am_tys3 (tc : Nat → ClassId) : (am_tys tc)[3]? = some (tc 3, .array .int) := rfl
theorem wp_iaload {a n : Nat} {f : Nat → Int32} {i : Int32} (hd : decode M.2.1 pc = .ok (.iaload, 1)) (hq : pc + 1 = q) (hc : w[a]? = some (.inl (0, n, .inl f))) (hin : vp_in i n) (k : am_Wp sc M d bc bs q ls (.int (f i.toNatClampNeg) :: st) w F) : am_Wp sc M d bc bs pc ls (.int i :: .ref a :: st) w F := by
  subst hq
  intro p l e R s m args below meth c Q tc D A C r H locs cells slots mc ms sl hS hl wl ws h1 h2 h3 h4 hE
  exact va_iald C.1 C.2.1 C.2.2.2.2.2.2.2.1 hS.2.1 a 0 (am_cw_at hc) (am_tys0 tc) hin hd (k p l e R s m args below meth c Q tc D A C r H locs cells slots mc ms sl hS hl wl ⟨trivial, ws.2.2⟩ h1 h2 h3 h4 hE)
theorem wp_laload {a n : Nat} {f : Nat → Int64} {i : Int32} (hd : decode M.2.1 pc = .ok (.laload, 1)) (hq : pc + 1 = q) (hc : w[a]? = some (.inl (1, n, .inr (.inl f)))) (hin : vp_in i n) (k : am_Wp sc M d bc bs q ls (.long (f i.toNatClampNeg) :: st) w F) : am_Wp sc M d bc bs pc ls (.int i :: .ref a :: st) w F := by
  subst hq
  intro p l e R s m args below meth c Q tc D A C r H locs cells slots mc ms sl hS hl wl ws h1 h2 h3 h4 hE
  exact va_lald C.1 C.2.1 C.2.2.2.2.2.2.2.1 hS.2.1 a 1 (am_cw_at hc) (am_tys1 tc) hin hd (k p l e R s m args below meth c Q tc D A C r H locs cells slots mc ms sl hS hl wl ⟨trivial, ws.2.2⟩ h1 h2 h3 h4 hE)
theorem wp_zaload {a n : Nat} {f : Nat → Int32} {i : Int32} (hd : decode M.2.1 pc = .ok (.baload, 1)) (hq : pc + 1 = q) (hc : w[a]? = some (.inl (2, n, .inl f))) (hin : vp_in i n) (k : am_Wp sc M d bc bs q ls (.int (f i.toNatClampNeg) :: st) w F) : am_Wp sc M d bc bs pc ls (.int i :: .ref a :: st) w F := by
  subst hq
  intro p l e R s m args below meth c Q tc D A C r H locs cells slots mc ms sl hS hl wl ws h1 h2 h3 h4 hE
  exact va_zald C.1 C.2.1 C.2.2.2.2.2.2.2.1 hS.2.1 a 2 (am_cw_at hc) (am_tys2 tc) hin hd (k p l e R s m args below meth c Q tc D A C r H locs cells slots mc ms sl hS hl wl ⟨trivial, ws.2.2⟩ h1 h2 h3 h4 hE)
theorem wp_aaload {a n b : Nat} {f : Nat → Option Nat} {i : Int32} (hd : decode M.2.1 pc = .ok (.aaload, 1)) (hq : pc + 1 = q) (hc : w[a]? = some (.inl (3, n, .inr (.inr (.inr (.inr f)))))) (hin : vp_in i n) (hv : f i.toNatClampNeg = some b) (k : am_Wp sc M d bc bs q ls (.ref b :: st) w F) : am_Wp sc M d bc bs pc ls (.int i :: .ref a :: st) w F := by
  subst hq
  intro p l e R s m args below meth c Q tc D A C r H locs cells slots mc ms sl hS hl wl ws h1 h2 h3 h4 hE
  have hlt : i.toNatClampNeg < n := Nat.not_le.mp fun q => hin (Or.inr q)
  have hcell : H[r (a + 1)]? = some (vp_cell (tc 3) (n, .inr (.inr (.inr (.inr (fun j => (f j).map (fun a => r (a + 1)))))))) := hS.2.1 a _ (am_cw_at hc)
  have hb : b < w.length := hS.1 a _ hc _ _ hv
  refine W.aald (v := .ref (r (b + 1))) (ty := .array .int) C.1 C.2.1 hcell ((C.2.2.2.2.2.2.2.1.2 3 _ (am_tys3 tc)).1 n (fun j => va_rf ((f j).map (fun a => r (a + 1))))) rfl (fun q => by cases q) (by show ¬ (i < 0 ∨ (arrV _ _ _).slots.size ≤ _); rw [arrV_size]; exact hin) (by show (arrV _ _ _).slots[_]? = _; rw [arrV_read _ _ hlt]; show some (va_rf ((f i.toNatClampNeg).map _)) = _; rw [hv]; rfl) rfl rfl hd ?_
  exact k p l e R s m args below meth c Q tc D A C r H locs cells slots mc ms sl hS hl wl ⟨hb, ws.2.2⟩ h1 h2 h3 h4 hE
theorem wp_alen {a t n : Nat} {x : (Nat → Int32) ⊕ (Nat → Int64) ⊕ (Nat → UInt32) ⊕ (Nat → UInt64) ⊕ (Nat → Option Nat)} {v : Int32} (hd : decode M.2.1 pc = .ok (.arraylength, 1)) (hq : pc + 1 = q) (hc : w[a]? = some (.inl (t, n, x))) (ht : t < 4) (hv : Int32.ofNat n = v) (k : am_Wp sc M d bc bs q ls (.int v :: st) w F) : am_Wp sc M d bc bs pc ls (.ref a :: st) w F := by
  subst hq
  intro p l e R s m args below meth c Q tc D A C r H locs cells slots mc ms sl hS hl wl ws h1 h2 h3 h4 hE
  have hy : ∃ ty, (am_tys tc)[t]? = some (tc t, ty) := by
    rcases (show t = 0 ∨ t = 1 ∨ t = 2 ∨ t = 3 by omega) with rfl | rfl | rfl | rfl
    · exact ⟨_, rfl⟩
    · exact ⟨_, rfl⟩
    · exact ⟨_, rfl⟩
    · exact ⟨_, rfl⟩
  obtain ⟨ty, hy⟩ := hy
  have hn : (am_ca r (n, x)).1 = n := by obtain f | f | f | f | f := x <;> rfl
  exact va_alen C.1 C.2.1 C.2.2.2.2.2.2.2.1 hS.2.1 a t (am_cw_at hc) hy (by rw [hn]; exact hv) hd (k p l e R s m args below meth c Q tc D A C r H locs cells slots mc ms sl hS hl wl ⟨trivial, ws.2⟩ h1 h2 h3 h4 hE)
theorem am_Sm_set {tc : Nat → ClassId} {D : va_G} {A : Nat → Prop} {s : State} {r : Nat → Nat} {H H1 : Heap} {locs locs1 : List Loc} {a : Nat} {x : am_C} (hS : am_Sm sc tc D A s r w H locs) (hx : am_wc w.length x) (hP : va_P D vwCl ((am_cw tc r w).set a (r (a + 1), am_ce tc r x)) H1) (hD : va_D A ((am_cw tc r w).set a (r (a + 1), am_ce tc r x))) (hS1 : va_S A s.heap H1 locs1) : am_Sm sc tc D A s r (w.set a x) H1 locs1 := by
  refine ⟨am_ww_set hS.1 hx, ?_, ?_, hS1, hS.2.2.2.2⟩
  · rw [am_cw_set]; exact hP
  · rw [am_cw_set]; exact hD
theorem wp_iastore {a n : Nat} {f : Nat → Int32} {i x : Int32} {w' : am_W} (hd : decode M.2.1 pc = .ok (.iastore, 1)) (hq : pc + 1 = q) (hc : w[a]? = some (.inl (0, n, .inl f))) (hin : vp_in i n) (hw : w.set a (.inl (0, n, .inl (upd f i.toNatClampNeg x))) = w') (k : am_Wp sc M d bc bs q ls st w' F) : am_Wp sc M d bc bs pc ls (.int x :: .int i :: .ref a :: st) w F := by
  subst hq
  subst hw
  intro p l e R s m args below meth c Q tc D A C r H locs cells slots mc ms sl hS hl wl ws h1 h2 h3 h4 hE
  refine va_iast C.1 C.2.1 C.2.2.2.2.2.2.2.1 hS.2.1 hS.2.2.1 hS.2.2.2.1 a 0 (am_cw_at hc) (am_tys0 tc) hin hd (fun H1 locs1 hP hD hS1 => ?_)
  exact k p l e R s m args below meth c Q tc D A C r H1 locs1 cells slots mc ms sl (am_Sm_set hS trivial hP hD hS1) hl (by rw [List.length_set]; exact wl) (by rw [List.length_set]; exact ws.2.2.2) h1 h2 h3 h4 (by rw [List.length_set]; exact hE)
theorem wp_lastore {a n : Nat} {f : Nat → Int64} {i : Int32} {x : Int64} {w' : am_W} (hd : decode M.2.1 pc = .ok (.lastore, 1)) (hq : pc + 1 = q) (hc : w[a]? = some (.inl (1, n, .inr (.inl f)))) (hin : vp_in i n) (hw : w.set a (.inl (1, n, .inr (.inl (vp_updL f i.toNatClampNeg x)))) = w') (k : am_Wp sc M d bc bs q ls st w' F) : am_Wp sc M d bc bs pc ls (.long x :: .int i :: .ref a :: st) w F := by
  subst hq
  subst hw
  intro p l e R s m args below meth c Q tc D A C r H locs cells slots mc ms sl hS hl wl ws h1 h2 h3 h4 hE
  refine va_last C.1 C.2.1 C.2.2.2.2.2.2.2.1 hS.2.1 hS.2.2.1 hS.2.2.2.1 a 1 (am_cw_at hc) (am_tys1 tc) hin hd (fun H1 locs1 hP hD hS1 => ?_)
  exact k p l e R s m args below meth c Q tc D A C r H1 locs1 cells slots mc ms sl (am_Sm_set hS trivial hP hD hS1) hl (by rw [List.length_set]; exact wl) (by rw [List.length_set]; exact ws.2.2.2) h1 h2 h3 h4 (by rw [List.length_set]; exact hE)
theorem wp_ialoadN {a n j : Nat} {f : Nat → Int32} {i : Int32} (hd : decode M.2.1 pc = .ok (.iaload, 1)) (hq : pc + 1 = q) (hc : w[a]? = some (.inl (0, n, .inl f))) (hi : i = nI j) (hj : j < n) (hn : n < 2 ^ 31) (k : am_Wp sc M d bc bs q ls (.int (f j) :: st) w F) : am_Wp sc M d bc bs pc ls (.int i :: .ref a :: st) w F := by
  subst hi
  refine wp_iaload hd hq hc (vp_in_nI hj hn) ?_
  rw [nI_clamp (Nat.lt_trans hj hn)]
  exact k
theorem wp_laloadN {a n j : Nat} {f : Nat → Int64} {i : Int32} (hd : decode M.2.1 pc = .ok (.laload, 1)) (hq : pc + 1 = q) (hc : w[a]? = some (.inl (1, n, .inr (.inl f)))) (hi : i = nI j) (hj : j < n) (hn : n < 2 ^ 31) (k : am_Wp sc M d bc bs q ls (.long (f j) :: st) w F) : am_Wp sc M d bc bs pc ls (.int i :: .ref a :: st) w F := by
  subst hi
  refine wp_laload hd hq hc (vp_in_nI hj hn) ?_
  rw [nI_clamp (Nat.lt_trans hj hn)]
  exact k
theorem wp_aaloadN {a n j b : Nat} {f : Nat → Option Nat} {i : Int32} (hd : decode M.2.1 pc = .ok (.aaload, 1)) (hq : pc + 1 = q) (hc : w[a]? = some (.inl (3, n, .inr (.inr (.inr (.inr f)))))) (hi : i = nI j) (hj : j < n) (hn : n < 2 ^ 31) (hv : f j = some b) (k : am_Wp sc M d bc bs q ls (.ref b :: st) w F) : am_Wp sc M d bc bs pc ls (.int i :: .ref a :: st) w F := by
  subst hi
  refine wp_aaload hd hq hc (vp_in_nI hj hn) ?_ k
  rw [nI_clamp (Nat.lt_trans hj hn)]
  exact hv
theorem wp_iastoreN {a n j : Nat} {f : Nat → Int32} {i x : Int32} {w' : am_W} (hd : decode M.2.1 pc = .ok (.iastore, 1)) (hq : pc + 1 = q) (hc : w[a]? = some (.inl (0, n, .inl f))) (hi : i = nI j) (hj : j < n) (hn : n < 2 ^ 31) (hw : w.set a (.inl (0, n, .inl (upd f j x))) = w') (k : am_Wp sc M d bc bs q ls st w' F) : am_Wp sc M d bc bs pc ls (.int x :: .int i :: .ref a :: st) w F := by
  subst hi
  refine wp_iastore hd hq hc (vp_in_nI hj hn) ?_ k
  rw [nI_clamp (Nat.lt_trans hj hn)]
  exact hw
theorem wp_lastoreN {a n j : Nat} {f : Nat → Int64} {i : Int32} {x : Int64} {w' : am_W} (hd : decode M.2.1 pc = .ok (.lastore, 1)) (hq : pc + 1 = q) (hc : w[a]? = some (.inl (1, n, .inr (.inl f)))) (hi : i = nI j) (hj : j < n) (hn : n < 2 ^ 31) (hw : w.set a (.inl (1, n, .inr (.inl (vp_updL f j x)))) = w') (k : am_Wp sc M d bc bs q ls st w' F) : am_Wp sc M d bc bs pc ls (.long x :: .int i :: .ref a :: st) w F := by
  subst hi
  refine wp_lastore hd hq hc (vp_in_nI hj hn) ?_ k
  rw [nI_clamp (Nat.lt_trans hj hn)]
  exact hw
/-- the script -/
theorem wp_sload {L j : Nat} {xs : Nat → Int32} {i : Int32} (hd : decode M.2.1 pc = .ok (.iaload, 1)) (hq : pc + 1 = q) (hsc : sc = some (L, xs)) (hin : vp_in i L) (k : am_Wp sc M d bc bs q ls (.int (xs i.toNatClampNeg) :: st) w F) : am_Wp sc M d bc bs pc ls (.int i :: .retAddr j :: st) w F := by
  subst hq
  subst hsc
  intro p l e R s m args below meth c Q tc D A C r H locs cells slots mc ms sl hS hl wl ws h1 h2 h3 h4 hE
  exact va_sld C.1 C.2.1 hS.2.2.2.2.1 hS.2.2.2.2.2.1 hS.2.2.2.2.2.2 hS.2.2.2.1 hin hd (k p l e R s m args below meth c Q tc D A C r H locs cells slots mc ms sl hS hl wl ⟨trivial, ws.2.2⟩ h1 h2 h3 h4 hE)
theorem wp_slen {L j : Nat} {xs : Nat → Int32} (hd : decode M.2.1 pc = .ok (.arraylength, 1)) (hq : pc + 1 = q) (hsc : sc = some (L, xs)) (k : am_Wp sc M d bc bs q ls (.int (Int32.ofNat L) :: st) w F) : am_Wp sc M d bc bs pc ls (.retAddr j :: st) w F := by
  subst hq
  subst hsc
  intro p l e R s m args below meth c Q tc D A C r H locs cells slots mc ms sl hS hl wl ws h1 h2 h3 h4 hE
  exact va_slen C.1 C.2.1 hS.2.2.2.2.1 hS.2.2.2.2.2.1 hS.2.2.2.2.2.2 hS.2.2.2.1 hd (k p l e R s m args below meth c Q tc D A C r H locs cells slots mc ms sl hS hl wl ⟨trivial, ws.2⟩ h1 h2 h3 h4 hE)
end Rules
end
section
/-! FIELDS, NEW CELLS, CALLS -/
/-- what is known of a sort of objects: its place in vwCl, its words, its fields' types -/
def am_Ok (ci : Nat) (C : String) (T : u_T) (N : Nat) (ty : Nat → FieldType) : Prop :=
  vwCl[ci]? = some (C, T, N) ∧ (∀ w ∈ u_ws C T N, w ∈ am_good) ∧ (∀ k, k < N → parseFieldDescriptor (T k).2.2.1 = some (ty k)) ∧ (∀ a, a < N → ∀ b, b < N → a ≠ b → (T a).2.1 ≠ (T b).2.1)
section HeapRules
variable {sc : am_S} {M : am_M} {d bc bs pc q : Nat} {ls : am_L} {st : List Value} {w : am_W} {F : Option Value → am_W → Prop}
variable {ci : Nat} {C : String} {T : u_T} {N : Nat} {ty : Nat → FieldType}
theorem am_fs_at {fs : List Value} {k : Nat} {v : Value} {r : Nat → Nat} (h : fs[k]? = some v) : (fs.map (am_cv r))[k]? = some (am_cv r v) := by
  rw [List.getElem?_map, h]; rfl
theorem am_ws_at {n : Nat} {fs : List Value} {k : Nat} {v : Value} (hw : am_ws n fs) (h : fs[k]? = some v) : am_wv n v := am_ws_mem hw (List.mem_of_getElem? h)
theorem am_ws_set {n : Nat} {v : Value} (hv : am_wv n v) : ∀ {fs : List Value} {k : Nat}, am_ws n fs → am_ws n (fs.set k v)
  | [], _, _ => trivial
  | _ :: _, 0, h => ⟨hv, h.2⟩
  | _ :: _, _ + 1, h => ⟨h.1, am_ws_set hv h.2⟩
theorem wp_get {a k ix : Nat} {fs : List Value} {v : Value} (hd : decode M.2.1 pc = .ok (.getfield ix, 3)) (hq : pc + 3 = q) (hO : am_Ok ci C T N ty) (hk : k < N) (hlink : Cond.fieldLink M.1.cls ix (T k).1 (T k).2.1 (T k).2.2.1 ∈ lw_tbl) (hc : w[a]? = some (.inr (ci, fs))) (hv : fs[k]? = some v) (kk : am_Wp sc M d bc bs q ls (v :: st) w F) : am_Wp sc M d bc bs pc ls (.ref a :: st) w F := by
  subst hq
  intro p l e R s m args below meth c Q tc D A C0 r H locs cells slots mc ms sl hS hl wl ws h1 h2 h3 h4 hE
  exact va_get C0.1 C0.2.1 C0.2.2.2.2.2.1 hO.2.1 C0.2.2.2.2.1 C0.2.2.2.2.2.2.2.1 hS.2.1 a (am_cw_at hc) hO.1 k hk (C0.2.2.2.2.2.1 _ (am_in hlink rfl)) (fun _ h9 => h9) (am_fs_at hv) hd (kk p l e R s m args below meth c Q tc D A C0 r H locs cells slots mc ms sl hS hl wl ⟨am_ws_at (hS.1 a _ hc) hv, ws.2⟩ h1 h2 h3 h4 hE)
theorem wp_getN {a k ix : Nat} {host : String} {fs : List Value} {v : Value} (hd : decode M.2.1 pc = .ok (.getfield ix, 3)) (hq : pc + 3 = q) (hO : am_Ok ci C T N ty) (hk : k < N) (hlink : Cond.fieldLinkNest M.1.cls ix (T k).1 (T k).2.1 (T k).2.2.1 host ∈ lw_tbl) (hc : w[a]? = some (.inr (ci, fs))) (hv : fs[k]? = some v) (kk : am_Wp sc M d bc bs q ls (v :: st) w F) : am_Wp sc M d bc bs pc ls (.ref a :: st) w F := by
  subst hq
  intro p l e R s m args below meth c Q tc D A C0 r H locs cells slots mc ms sl hS hl wl ws h1 h2 h3 h4 hE
  exact va_getN C0.1 C0.2.1 C0.2.2.2.2.2.1 hO.2.1 C0.2.2.2.2.1 C0.2.2.2.2.2.2.2.1 hS.2.1 a (am_cw_at hc) hO.1 k hk (va_Nw.use rfl (C0.2.2.2.2.2.2.1 _ (am_inN hlink rfl))) (fun _ h9 => h9) (am_fs_at hv) hd (kk p l e R s m args below meth c Q tc D A C0 r H locs cells slots mc ms sl hS hl wl ⟨am_ws_at (hS.1 a _ hc) hv, ws.2⟩ h1 h2 h3 h4 hE)
/-- what may be stored in a field of this type: a number that fits, or a reference -/
def am_fit (t : FieldType) (v : Value) : Prop := ∀ r, narrow t (am_cv r v) = am_cv r v ∧ fits t (am_cv r v) = true
theorem am_ce_set {tc : Nat → ClassId} {r : Nat → Nat} {fs : List Value} {k : Nat} {v : Value} : am_ce tc r (.inr (ci, fs.set k v)) = .inr (ci, (fs.map (am_cv r)).set k (am_cv r v)) := by
  show Sum.inr (ci, (fs.set k v).map (am_cv r)) = _
  rw [List.map_set]
theorem wp_put {a k ix : Nat} {fs : List Value} {v : Value} {w' : am_W} (hd : decode M.2.1 pc = .ok (.putfield ix, 3)) (hq : pc + 3 = q) (hO : am_Ok ci C T N ty) (hk : k < N) (hlink : Cond.fieldLink M.1.cls ix (T k).1 (T k).2.1 (T k).2.2.1 ∈ lw_tbl) (hfin : (T k).2.2.2 = false) (hfit : am_fit (ty k) v) (hc : w[a]? = some (.inr (ci, fs))) (hl9 : k < fs.length) (hw : w.set a (.inr (ci, fs.set k v)) = w') (kk : am_Wp sc M d bc bs q ls st w' F) : am_Wp sc M d bc bs pc ls (v :: .ref a :: st) w F := by
  subst hq
  subst hw
  intro p l e R s m args below meth c Q tc D A C0 r H locs cells slots mc ms sl hS hl wl ws h1 h2 h3 h4 hE
  refine va_put C0.1 C0.2.1 C0.2.2.2.2.2.1 hO.2.1 ty hO.2.2.1 hO.2.2.2 C0.2.2.2.2.1 C0.2.2.2.2.2.2.2.1 hS.2.1 hS.2.2.1 hS.2.2.2.1 a (am_cw_at hc) hO.1 k hk (C0.2.2.2.2.2.1 _ (am_in hlink rfl)) (fun _ h9 => h9) hfin (hO.2.2.1 k hk) (hfit r).1 (hfit r).2 (by rw [List.length_map]; exact hl9) hd (fun H1 locs1 hP hD hS1 => ?_)
  rw [← am_ce_set (tc := tc)] at hP hD
  exact kk p l e R s m args below meth c Q tc D A C0 r H1 locs1 cells slots mc ms sl (am_Sm_set hS (am_ws_set ws.1 (hS.1 a _ hc)) hP hD hS1) hl (by rw [List.length_set]; exact wl) (by rw [List.length_set]; exact ws.2.2) h1 h2 h3 h4 (by rw [List.length_set]; exact hE)
theorem wp_putN {a k ix : Nat} {host : String} {fs : List Value} {v : Value} {w' : am_W} (hd : decode M.2.1 pc = .ok (.putfield ix, 3)) (hq : pc + 3 = q) (hO : am_Ok ci C T N ty) (hk : k < N) (hlink : Cond.fieldLinkNest M.1.cls ix (T k).1 (T k).2.1 (T k).2.2.1 host ∈ lw_tbl) (hfin : (T k).2.2.2 = false) (hfit : am_fit (ty k) v) (hc : w[a]? = some (.inr (ci, fs))) (hl9 : k < fs.length) (hw : w.set a (.inr (ci, fs.set k v)) = w') (kk : am_Wp sc M d bc bs q ls st w' F) : am_Wp sc M d bc bs pc ls (v :: .ref a :: st) w F := by
  subst hq
  subst hw
  intro p l e R s m args below meth c Q tc D A C0 r H locs cells slots mc ms sl hS hl wl ws h1 h2 h3 h4 hE
  refine va_putN C0.1 C0.2.1 C0.2.2.2.2.2.1 hO.2.1 ty hO.2.2.1 hO.2.2.2 C0.2.2.2.2.1 C0.2.2.2.2.2.2.2.1 hS.2.1 hS.2.2.1 hS.2.2.2.1 a (am_cw_at hc) hO.1 k hk (va_Nw.use rfl (C0.2.2.2.2.2.2.1 _ (am_inN hlink rfl))) (fun _ h9 => h9) hfin (hO.2.2.1 k hk) (hfit r).1 (hfit r).2 (by rw [List.length_map]; exact hl9) hd (fun H1 locs1 hP hD hS1 => ?_)
  rw [← am_ce_set (tc := tc)] at hP hD
  exact kk p l e R s m args below meth c Q tc D A C0 r H1 locs1 cells slots mc ms sl (am_Sm_set hS (am_ws_set ws.1 (hS.1 a _ hc)) hP hD hS1) hl (by rw [List.length_set]; exact wl) (by rw [List.length_set]; exact ws.2.2) h1 h2 h3 h4 (by rw [List.length_set]; exact hE)
theorem wp_putF {a k ix : Nat} {fs : List Value} {v : Value} {w' : am_W} (hd : decode M.2.1 pc = .ok (.putfield ix, 3)) (hq : pc + 3 = q) (hO : am_Ok ci C T N ty) (hk : k < N) (hlink : Cond.fieldLink M.1.cls ix (T k).1 (T k).2.1 (T k).2.2.1 ∈ lw_tbl) (hfin : (T k).2.2.2 = true) (hnm : M.1.name = "<init>") (hdecl : (T k).1 = M.1.cls) (hfit : am_fit (ty k) v) (hc : w[a]? = some (.inr (ci, fs))) (hl9 : k < fs.length) (hw : w.set a (.inr (ci, fs.set k v)) = w') (kk : am_Wp sc M d bc bs q ls st w' F) : am_Wp sc M d bc bs pc ls (v :: .ref a :: st) w F := by
  subst hq
  subst hw
  intro p l e R s m args below meth c Q tc D A C0 r H locs cells slots mc ms sl hS hl wl ws h1 h2 h3 h4 hE
  refine va_putF C0.1 C0.2.1 C0.2.2.2.2.2.1 hO.2.1 ty hO.2.2.1 hO.2.2.2 C0.2.2.2.2.1 C0.2.2.2.2.2.2.2.1 hS.2.1 hS.2.2.1 hS.2.2.2.1 a (am_cw_at hc) hO.1 k hk (C0.2.2.2.2.2.1 _ (am_in hlink rfl)) (fun _ h9 => h9) hfin (C0.2.2.2.2.2.2.2.2.2.1.trans hnm) hdecl (hO.2.2.1 k hk) (hfit r).1 (hfit r).2 (by rw [List.length_map]; exact hl9) hd (fun H1 locs1 hP hD hS1 => ?_)
  rw [← am_ce_set (tc := tc)] at hP hD
  exact kk p l e R s m args below meth c Q tc D A C0 r H1 locs1 cells slots mc ms sl (am_Sm_set hS (am_ws_set ws.1 (hS.1 a _ hc)) hP hD hS1) hl (by rw [List.length_set]; exact wl) (by rw [List.length_set]; exact ws.2.2) h1 h2 h3 h4 (by rw [List.length_set]; exact hE)
/-- the naming, with one cell more -/
def am_up (r : Nat → Nat) (n a : Nat) : Nat → Nat := fun j => if j = n then a else r j
theorem am_up_ext {r : Nat → Nat} {n a : Nat} : ∀ j, j ≤ n → am_up r (n + 1) a j = r j := fun j hj => by
  unfold am_up; rw [if_neg (by omega)]
theorem am_up_self {r : Nat → Nat} {n a : Nat} : am_up r n a n = a := by unfold am_up; rw [if_pos rfl]
theorem am_X_ext {A : Nat → Prop} {s : State} {r r1 : Nat → Nat} (h : r1 0 = r 0) (hX : am_X sc A s r) : am_X sc A s r1 := by
  cases sc with
  | none => trivial
  | some x => show va_X (r1 0) x.1 x.2 s s.heap ∧ r1 0 < s.heap.size ∧ ¬ A (r1 0); rw [h]; exact hX
theorem am_Sm_push {tc : Nat → ClassId} {D : va_G} {A : Nat → Prop} {s : State} {r : Nat → Nat} {H H1 : Heap} {locs locs1 : List Loc} {a : Nat} {x : am_C} (hS : am_Sm sc tc D A s r w H locs) (hx : am_wc w.length x) (hP : va_P D vwCl (am_cw tc r w ++ [(a, am_ce tc r x)]) H1) (hD : va_D A (am_cw tc r w ++ [(a, am_ce tc r x)])) (hS1 : va_S A s.heap H1 locs1) : am_Sm sc tc D A s (am_up r (w.length + 1) a) (w ++ [x]) H1 locs1 := by
  have e : am_cw tc (am_up r (w.length + 1) a) (w ++ [x]) = am_cw tc r w ++ [(a, am_ce tc r x)] := by
    rw [am_cw_push, am_cw_ext am_up_ext hS.1, am_ce_ext am_up_ext hx, am_up_self]
  refine ⟨am_ww_push hS.1 hx, ?_, ?_, hS1, am_X_ext (am_up_ext 0 (Nat.zero_le _)) hS.2.2.2.2⟩
  · rw [e]; exact hP
  · rw [e]; exact hD
theorem am_End_up {M : am_M} {p : Program} {l : Launch} {e : Env} {R : Room} {s : State} {m : MethodId} {args : Array Value} {below : List Frame} {meth : Method} {c : Code} {Q : State → Prop} {tc : Nat → ClassId} {D : va_G} {A : Nat → Prop} {mc ms : Nat} {r r1 : Nat → Nat} {n n1 : Nat} (h : ∀ a, a ≤ n → r1 a = r a) (hn : n ≤ n1) (hE : am_End sc M p l e R s m args below meth c Q tc D A mc ms r n F) : am_End sc M p l e R s m args below meth c Q tc D A mc ms r1 n1 F :=
  fun v w1 r2 H1 locs1 cells1 slots1 pc1 sl1 hF hS hr hl hv hc hs ht => hE v w1 r2 H1 locs1 cells1 slots1 pc1 sl1 hF hS (fun a ha => (hr a (Nat.le_trans ha hn)).trans (h a ha)) (Nat.le_trans hn hl) hv hc hs ht
theorem wp_new {ix : Nat} {fs : List Value} (hd : decode M.2.1 pc = .ok (.new ix, 3)) (hq : pc + 3 = q) (hO : am_Ok ci C T N ty) (hlink : Cond.classLink M.1.cls ix C ∈ lw_tbl) (hinst : Cond.instantiable C N ∈ lw_tbl) (hini : Cond.initialized C ∈ lw_tbl) (hfs : ∀ j, j < N → defaultValue (ty j) = vp_V fs j) (hfw : am_ws 0 fs) (hfr : ∀ r, fs.map (am_cv r) = fs) (kk : am_Wp sc M d bc bs q ls (.ref w.length :: st) (w ++ [.inr (ci, fs)]) F) : am_Wp sc M d (bc + 1) (bs + N) pc ls st w F := by
  subst hq
  intro p l e R s m args below meth c Q tc D A C0 r H locs cells slots mc ms sl hS hl wl ws h1 h2 h3 h4 hE
  refine va_new (ci := ci) (fs := fs) C0.1 C0.2.1 C0.2.2.2.2.2.1 hO.2.1 ty hO.2.2.1 C0.2.2.2.2.1 (C0.2.2.2.2.2.1 _ (am_in hlink rfl)) (C0.2.2.2.2.2.1 _ (am_in hinst rfl)) (C0.2.2.2.2.2.1 _ (am_in hini rfl)) C0.2.2.2.2.2.2.2.1 hS.2.1 hS.2.2.1 hS.2.2.2.1 C0.2.2.2.2.2.2.2.2.2.2.1 hO.1 hfs (by omega) (by omega) hd (fun a H1 hP hD hS1 => ?_)
  have hfs' : am_wc w.length (.inr (ci, fs)) := am_ws_mono (Nat.zero_le _) hfw
  have ee : (Sum.inr (ci, fs) : va_E) = am_ce tc r (.inr (ci, fs)) := by show _ = Sum.inr (ci, fs.map (am_cv r)); rw [hfr]
  rw [ee] at hP hD
  have hx : ∀ j, j ≤ w.length → am_up r (w.length + 1) a j = r j := am_up_ext
  have hlen : w.length ≤ (w ++ [(.inr (ci, fs) : am_C)]).length := by rw [List.length_append]; exact Nat.le_add_right _ _
  have k9 := kk p l e R s m args below meth c Q tc D A C0 (am_up r (w.length + 1) a) H1 locs (cells + 1) (slots + N) mc ms sl (am_Sm_push hS hfs' hP hD hS1) (by rw [am_cl_ext hx wl]; exact hl) (am_wl_mono hlen wl) ⟨(by rw [List.length_append]; exact Nat.lt_succ_self _), am_ws_mono hlen ws⟩ (by omega) (by omega) h3 h4 (am_End_up hx hlen hE)
  rw [List.map_cons, am_cs_ext hx ws] at k9
  rw [show am_cv (am_up r (w.length + 1) a) (.ref w.length) = .ref a from congrArg Value.ref am_up_self] at k9
  exact k9
/-- a new array of numbers -/
def am_kind (t : Nat) : FieldType := match t with
  | 0 => .int
  | 1 => .long
  | 2 => .boolean
  | _ => .array .int
def am_zero (t n : Nat) : vp_A := match t with
  | 1 => (n, .inr (.inl (fun _ => 0)))
  | 3 => (n, .inr (.inr (.inr (.inr (fun _ => none)))))
  | _ => (n, .inl (fun _ => 0))
theorem wp_newa {at_ : ArrayType} {t : Nat} {n : Int32} {N' : Nat} (hd : decode M.2.1 pc = .ok (.newarray at_, 2)) (hq : pc + 2 = q) (ht : t < 3) (hty : newarray.typeOf at_ = am_kind t) (harr : Cond.arrayClass (am_kind t) ∈ lw_tbl) (hn : ¬ n < 0) (hN : n.toNatClampNeg = N') (hb : N' * componentBytes (am_kind t) ≤ 536870912) (kk : am_Wp sc M d bc bs q ls (.ref w.length :: st) (w ++ [.inl (t, am_zero t N')]) F) : am_Wp sc M d (bc + 1) (bs + N') pc ls (.int n :: st) w F := by
  subst hq
  intro p l e R s m args below meth c Q tc D A C0 r H locs cells slots mc ms sl hS hl wl ws h1 h2 h3 h4 hE
  have hK := C0.2.2.2.2.2.2.2.1
  have hz : ∀ cA : ClassId, vp_cell cA (am_zero t N') = arrV cA N' (fun _ => defaultValue (am_kind t)) := by
    intro cA
    rcases (show t = 0 ∨ t = 1 ∨ t = 2 by omega) with rfl | rfl | rfl <;> rfl
  have hg : goodWord (Cond.arrayClass (am_kind t)) = true := rfl
  refine va_newa (ty := am_kind t) (a0 := am_zero t N') C0.1 C0.2.1 (by rw [hty]; exact C0.2.2.2.2.2.1 _ (am_in harr hg)) hty hK hS.2.1 hS.2.2.1 hS.2.2.2.1 C0.2.2.2.2.2.2.2.2.2.2.1 hz hn hN hb (by omega) (by omega) hd (fun a cA H1 hK1 hP hD hS1 => ?_)
  have hcA : cA = tc t := by
    have e1 := (hK1.2 4 (cA, am_kind t) (by rfl)).2
    rcases (show t = 0 ∨ t = 1 ∨ t = 2 by omega) with rfl | rfl | rfl
    · exact Option.some.inj (e1.symm.trans (hK.2 0 _ rfl).2)
    · exact Option.some.inj (e1.symm.trans (hK.2 1 _ rfl).2)
    · exact Option.some.inj (e1.symm.trans (hK.2 2 _ rfl).2)
  subst hcA
  have hw0 : am_wc w.length (.inl (t, am_zero t N')) := by
    rcases (show t = 0 ∨ t = 1 ∨ t = 2 by omega) with rfl | rfl | rfl <;> exact trivial
  have ee : (Sum.inl (tc t, am_zero t N') : va_E) = am_ce tc r (.inl (t, am_zero t N')) := by
    rcases (show t = 0 ∨ t = 1 ∨ t = 2 by omega) with rfl | rfl | rfl <;> rfl
  rw [ee] at hP hD
  have hx : ∀ j, j ≤ w.length → am_up r (w.length + 1) a j = r j := am_up_ext
  have hlen : w.length ≤ (w ++ [(.inl (t, am_zero t N') : am_C)]).length := by rw [List.length_append]; exact Nat.le_add_right _ _
  have k9 := kk p l e R s m args below meth c Q tc D A C0 (am_up r (w.length + 1) a) H1 locs (cells + 1) (slots + N') mc ms sl (am_Sm_push hS hw0 hP hD hS1) (by rw [am_cl_ext hx wl]; exact hl) (am_wl_mono hlen wl) ⟨(by rw [List.length_append]; exact Nat.lt_succ_self _), am_ws_mono hlen ws.2⟩ (by omega) (by omega) h3 h4 (am_End_up hx hlen hE)
  rw [List.map_cons, am_cs_ext hx ws.2] at k9
  rw [show am_cv (am_up r (w.length + 1) a) (.ref w.length) = .ref a from congrArg Value.ref am_up_self] at k9
  exact k9
theorem wp_objInit {a ix : Nat} (hd : decode M.2.1 pc = .ok (.invokespecial ix, 3)) (hq : pc + 3 = q) (hlink : Cond.methodLink M.1.cls ix Lib.objectInit ∈ lw_tbl) (hinst : Cond.instanceMethod Lib.objectInit ∈ lw_tbl) (hcode : Cond.code Lib.objectInit ⟨#[0xb1]⟩ 1 none ∈ lw_tbl) (hrm : (st.map fun v => v.category).sum ≤ 8) (hdd : 1 ≤ d) (kk : am_Wp sc M d bc bs q ls st w F) : am_Wp sc M d bc bs pc ls (.ref a :: st) w F := by
  subst hq
  intro p l e R s m args below meth c Q tc D A C0 r H locs cells slots mc ms sl hS hl wl ws h1 h2 h3 h4 hE
  have hfr := C0.2.2.2.2.2.2.2.2.2.2.2
  have hcat : ((st.map (am_cv r)).map fun v => v.category).sum = (st.map fun v => v.category).sum := by
    rw [List.map_map]; congr 1; apply List.map_congr_left; intro v _; exact am_cv_cat r v
  refine W.objInit C0.1 C0.2.1 C0.2.2.2.2.1 (C0.2.2.2.2.2.1 _ (am_in hlink rfl)) (C0.2.2.2.2.2.1 _ (am_in hinst rfl)) (C0.2.2.2.2.2.1 _ (am_in hcode rfl)) rfl (by rw [C0.2.2.2.1]; exact hl.1) rfl hd (by omega) (by show 2 * 0 + _ + 12 ≤ _; rw [hcat]; omega) ?_
  exact kk p l e R s m args below meth c Q tc D A C0 r H locs cells slots mc ms sl hS hl wl ws.2 h1 h2 h3 h4 hE
/-- an array's contents beyond its length don't matter -/
theorem wp_chg {a t n : Nat} {f g : Nat → Int32} {w' : am_W} (hc : w[a]? = some (.inl (t, n, .inl f))) (hfg : ∀ j, j < n → f j = g j) (hw : w.set a (.inl (t, n, .inl g)) = w') (k : am_Wp sc M d bc bs pc ls st w' F) : am_Wp sc M d bc bs pc ls st w F := by
  subst hw
  intro p l e R s m args below meth c Q tc D A C0 r H locs cells slots mc ms sl hS hl wl ws h1 h2 h3 h4 hE
  have ha : H[r (a + 1)]? = some (vp_cell (tc t) (n, .inl f)) := hS.2.1 a _ (am_cw_at hc)
  have e9 : vp_cell (tc t) (n, .inl f) = vp_cell (tc t) (n, .inl g) := by
    rw [vp_cell_i, vp_cell_i]
    unfold arrV
    congr 2
    funext j
    exact congrArg Value.int (hfg j.val j.isLt)
  have hP : va_P D vwCl ((am_cw tc r w).set a (r (a + 1), am_ce tc r (.inl (t, n, .inl g)))) H := hS.2.1.set hS.2.2.1 (am_cw_at hc) (show H[r (a + 1)]? = some (vp_cell (tc t) (n, .inl g)) by rw [ha, e9]) (fun _ _ => rfl)
  exact k p l e R s m args below meth c Q tc D A C0 r H locs cells slots mc ms sl (am_Sm_set hS trivial hP (hS.2.2.1.set (am_cw_at hc)) hS.2.2.2.1) hl (by rw [List.length_set]; exact wl) (by rw [List.length_set]; exact ws) h1 h2 h3 h4 (by rw [List.length_set]; exact hE)
theorem wp_chgL {a t n : Nat} {f g : Nat → Int64} {w' : am_W} (hc : w[a]? = some (.inl (t, n, .inr (.inl f)))) (hfg : ∀ j, j < n → f j = g j) (hw : w.set a (.inl (t, n, .inr (.inl g))) = w') (k : am_Wp sc M d bc bs pc ls st w' F) : am_Wp sc M d bc bs pc ls st w F := by
  subst hw
  intro p l e R s m args below meth c Q tc D A C0 r H locs cells slots mc ms sl hS hl wl ws h1 h2 h3 h4 hE
  have ha : H[r (a + 1)]? = some (vp_cell (tc t) (n, .inr (.inl f))) := hS.2.1 a _ (am_cw_at hc)
  have e9 : vp_cell (tc t) (n, .inr (.inl f)) = vp_cell (tc t) (n, .inr (.inl g)) := by
    rw [vp_cell_l, vp_cell_l]
    unfold arrV
    congr 2
    funext j
    exact congrArg Value.long (hfg j.val j.isLt)
  have hP : va_P D vwCl ((am_cw tc r w).set a (r (a + 1), am_ce tc r (.inl (t, n, .inr (.inl g))))) H := hS.2.1.set hS.2.2.1 (am_cw_at hc) (show H[r (a + 1)]? = some (vp_cell (tc t) (n, .inr (.inl g))) by rw [ha, e9]) (fun _ _ => rfl)
  exact k p l e R s m args below meth c Q tc D A C0 r H locs cells slots mc ms sl (am_Sm_set hS trivial hP (hS.2.2.1.set (am_cw_at hc)) hS.2.2.2.1) hl (by rw [List.length_set]; exact wl) (by rw [List.length_set]; exact ws) h1 h2 h3 h4 (by rw [List.length_set]; exact hE)
/-- deeper is easier; more room is easier; a weaker end is easier -/
theorem wp_deep {d1 : Nat} (h : d1 ≤ d) (k : am_Wp sc M d1 bc bs pc ls st w F) : am_Wp sc M d bc bs pc ls st w F := by
  intro p l e R s m args below meth c Q tc D A C0 r H locs cells slots mc ms sl hS hl wl ws h1 h2 h3 h4 hE
  obtain ⟨c1, c2, c3, c4, c5, c6, c7, c8, c9, c10, c11, c12, c13⟩ := C0
  exact k p l e R s m args below meth c Q tc D A ⟨c1, c2, c3, c4, c5, c6, c7, c8, c9, c10, c11, by omega, by omega⟩ r H locs cells slots mc ms sl hS hl wl ws h1 h2 h3 h4 hE
theorem wp_more {bc1 bs1 : Nat} (hb : bc1 ≤ bc) (hs : bs1 ≤ bs) (k : am_Wp sc M d bc1 bs1 pc ls st w F) : am_Wp sc M d bc bs pc ls st w F := by
  intro p l e R s m args below meth c Q tc D A C0 r H locs cells slots mc ms sl hS hl wl ws h1 h2 h3 h4 hE
  exact k p l e R s m args below meth c Q tc D A C0 r H locs cells slots mc ms sl hS hl wl ws (by omega) (by omega) h3 h4 hE
theorem wp_post {F1 : Option Value → am_W → Prop} (h : ∀ v w1, F1 v w1 → F v w1) (k : am_Wp sc M d bc bs pc ls st w F1) : am_Wp sc M d bc bs pc ls st w F := by
  intro p l e R s m args below meth c Q tc D A C0 r H locs cells slots mc ms sl hS hl wl ws h1 h2 h3 h4 hE
  exact k p l e R s m args below meth c Q tc D A C0 r H locs cells slots mc ms sl hS hl wl ws h1 h2 h3 h4 (fun v w1 r1 H1 locs1 cells1 slots1 pc1 sl1 hF => hE v w1 r1 H1 locs1 cells1 slots1 pc1 sl1 (h v w1 hF))
/-- fewer locals are enough -/
theorem wp_ls {ls' : am_L} (h : ∀ q, q ∈ ls' → q ∈ ls) (k : am_Wp sc M d bc bs pc ls' st w F) : am_Wp sc M d bc bs pc ls st w F := by
  intro p l e R s m args below meth c Q tc D A C0 r H locs cells slots mc ms sl hS hl wl ws h1 h2 h3 h4 hE
  refine k p l e R s m args below meth c Q tc D A C0 r H locs cells slots mc ms sl hS ⟨hl.1, hl.2.1, fun q hq => ?_⟩ (am_wl_of (fun q hq => am_wl_mem wl (h q hq))) ws h1 h2 h3 h4 hE
  obtain ⟨x, hx, rfl⟩ := List.mem_map.mp hq
  exact hl.2.2 _ (List.mem_map.mpr ⟨x, h x hx, rfl⟩)
end HeapRules
/-! small rows for the walks -/
theorem am_fit_i {x : Int32} : am_fit .int (.int x) := fun _ => ⟨rfl, rfl⟩
theorem am_fit_l {x : Int64} : am_fit .long (.long x) := fun _ => ⟨rfl, rfl⟩
theorem am_fit_o {n : String} {a : Nat} : am_fit (.object n) (.ref a) := fun _ => ⟨rfl, rfl⟩
theorem am_fit_a {t : FieldType} {a : Nat} : am_fit (.array t) (.ref a) := fun _ => ⟨rfl, rfl⟩
theorem am_fit_b {b : Bool} : am_fit .boolean (.int (if b then 1 else 0)) := fun _ => by cases b <;> exact ⟨rfl, rfl⟩
theorem am_at_eq {w : am_W} {a : Nat} {c x : am_C} (h : w[a]? = some c) : (w.set a x)[a]? = some x := by
  rw [List.getElem?_set]; simp [am_ww_len h]
theorem am_at_ne {w : am_W} {a b : Nat} {c x : am_C} (hn : a ≠ b) (h : w[b]? = some c) : (w.set a x)[b]? = some c := by
  rw [List.getElem?_set, if_neg hn]; exact h
end
section
/-! CALLS -/
def am_Pre (tc : Nat → ClassId) (D : va_G) (r : Nat → Nat) (w : am_W) (sz : Nat) (U : State) : Prop :=
  U.heap.size = sz ∧ va_P D vwCl (am_cw tc r w) U.heap ∧ va_K D vwCl (am_tys tc) U ∧ va_D (fun _ => True) (am_cw tc r w) ∧ ∀ x ∈ am_nest, va_Nw x U
def am_Q (tc : Nat → ClassId) (D : va_G) (r : Nat → Nat) (n : Nat) (F : Option Value → am_W → Prop) (A : Nat → Prop) : Array Value → State → Outcome → State → Prop := fun _ st oc t =>
  (∃ (v : Option Value) (w1 : am_W) (r1 : Nat → Nat), oc = .returned (v.map (am_cv r1)) ∧ F v w1 ∧ am_ww w1 ∧ (∀ a, a ≤ n → r1 a = r a) ∧ n ≤ w1.length ∧ am_wo w1.length v ∧ va_P D vwCl (am_cw tc r1 w1) t.heap ∧ va_D A (am_cw tc r1 w1)) ∧ va_F A st t
/-- what the tables say of a method that may be called: n parameters -/
def am_Bd (M : am_M) (n : Nat) : Prop :=
  plainName M.1.cls = true ∧ Cond.code M.1 M.2.1 M.2.2.1 M.2.2.2 ∈ lw_tbl ∧ Cond.initialized M.1.cls ∈ lw_tbl ∧ (M.1.cls ≠ "java/lang/invoke/MethodHandle" ∧ M.1.cls ≠ "java/lang/invoke/VarHandle" ∧ (parseMethodDescriptor M.1.desc).map (fun d => d.parameters.length) = some n) ∧ M.2.2.1 ≤ 45
theorem am_args_map (r : Nat → Nat) : ∀ (as : List Value) (i : Nat), lv_args i (as.map (am_cv r)) = am_cl r (lv_args i as)
  | [], _ => rfl
  | v :: as, i => by
    rw [List.map_cons]
    show (i, am_cv r v) :: lv_args (if (am_cv r v).category = 2 then i + 2 else i + 1) (as.map (am_cv r)) = (i, am_cv r v) :: am_cl r (lv_args (if v.category = 2 then i + 2 else i + 1) as)
    rw [am_cv_cat, am_args_map r as]
theorem am_sl_len (r : Nat → Nat) : ∀ (as : List Value), (lg_sl (as.map (am_cv r))).length = (lg_sl as).length
  | [] => rfl
  | v :: as => by
    have h := am_sl_len r as
    unfold lg_sl at h ⊢
    rw [List.map_cons, List.flatMap_cons, List.flatMap_cons, List.length_append, List.length_append, h, am_cv_cat]
    by_cases hc : v.category = 2 <;> simp [hc]
theorem am_met {M : am_M} {d mc ms n : Nat} {as : List Value} {w : am_W} {F : Option Value → am_W → Prop} (hB : am_Bd M n) (hlen : (lg_sl as).length ≤ M.2.2.1) (h : am_Wp none M d mc ms 0 (lv_args 0 as) [] w F) (l : Launch) (tc : Nat → ClassId) (D : va_G) (r : Nat → Nat) (sz : Nat) (hw : am_ww w) (has : am_ws w.length as) :
    Met l M.1 (Cond.code M.1 M.2.1 M.2.2.1 M.2.2.2 :: am_good) { frames := d, cells := mc, slots := ms, locals := d * 64 } (va_Pc (as.map (am_cv r)) (am_Pre tc D r w sz)) (am_Q tc D r w.length F (va_A (am_cw tc r w) sz)) mc ms (va_A (am_cw tc r w) sz) := by
  refine Met.ofW (cc := M.2.1) (maxL := M.2.2.1) (ret := M.2.2.2) hB.1 rfl ?_
  intro p e s m args below meth c s₁ B hml hv
  obtain ⟨rfl, hsz, hP, hK, hD0, hN⟩ := hv
  have hts := atoms_spec (ws := Cond.code M.1 M.2.1 M.2.2.1 M.2.2.2 :: am_good) B.pre
  subst hsz
  have hD := hD0.self (sz := s.heap.size)
  have hA : ∀ q : Nat, s.heap.size ≤ q → va_A (am_cw tc r w) s.heap.size q := fun q h => Or.inr h
  have hl := lv_entry (as.map (am_cv r)) (n := M.2.2.1) (by rw [am_sl_len]; exact hlen)
  rw [am_args_map] at hl
  rw [lg_entry_eq]
  refine h p l e _ s m _ below meth c _ tc D (va_A (am_cw tc r w) s.heap.size) ⟨B.exec, B.bytes, B.returns, hml, findClass_of_methodNamed B.named, fun x hx => hts x (List.mem_cons_of_mem _ hx), hN, hK, B.notSynchronized, (name_of_methodNamed B.named B.method).1, hA, Nat.le_refl _, Nat.le_refl _⟩ r s.heap [] 0 0 mc ms _ ⟨hw, hP, hD, va_S.rf, trivial⟩ hl (am_wl_args 0 has) trivial (by omega) (by omega) (Nat.le_refl _) (Nat.le_refl _) ?_
  intro v w1 r1 H1 locs1 cells1 slots1 pc1 sl1 hF hS hr hle hv hc hs hret
  refine W.widen hc hs ?_
  have hq : ∀ t : State, t.heap = H1 → am_Q tc D r w.length F (va_A (am_cw tc r w) s.heap.size) (as.map (am_cv r)).toArray s (.returned (v.map (am_cv r1))) t := fun t ht => ⟨⟨v, w1, r1, rfl, hF, hS.1, hr, hle, hv, by rw [ht]; exact hS.2.1, hS.2.2.1⟩, hS.2.2.2.1.F ht⟩
  have hlk := B.notSynchronized
  rcases hret with ⟨e1, rfl, e3⟩ | ⟨ty, x, e1, rfl, e2, e3⟩ | ⟨x, e1, rfl, e3⟩ | ⟨ty, a, e1, e2, rfl, e3⟩
  · exact W.vret B.exec B.bytes (B.returns.trans e1) (fun t ht _ => hq t ht) hS.2.2.2.1.2.2 e3 hlk
  · exact W.zret B.exec B.bytes (B.returns.trans e1) e2 (fun t ht _ => hq t ht) hS.2.2.2.1.2.2 e3 hlk
  · exact W.lret B.exec B.bytes (B.returns.trans e1) (fun t ht _ => hq t ht) hS.2.2.2.1.2.2 e3 hlk
  · exact W.aret B.exec B.bytes (B.returns.trans e1) e2 (Or.inr ⟨_, rfl⟩) (fun t ht _ => hq t ht) hS.2.2.2.1.2.2 e3 hlk
section CallRules
variable {sc : am_S} {M M1 : am_M} {d bc bs bc1 bs1 pc q : Nat} {ls : am_L} {st as : List Value} {w : am_W} {F F1 : Option Value → am_W → Prop}
theorem am_free {tc : Nat → ClassId} {D : va_G} {A : Nat → Prop} {s : State} {r : Nat → Nat} {H : Heap} {locs : List Loc} (hS : am_Sm sc tc D A s r w H locs) (hA : ∀ q, s.heap.size ≤ q → A q) : ∀ q, va_A (am_cw tc r w) H.size q → A q := by
  intro q h
  rcases h with ⟨k, e, h⟩ | h
  · exact hS.2.2.1.2 k (q, e) h
  · exact hA q (Nat.le_trans hS.2.2.2.1.1 h)
theorem am_call {p : Program} {l : Launch} {e : Env} {R : Room} {s : State} {m : MethodId} {args : Array Value} {below : List Frame} {meth : Method} {c : Code} {Q : State → Prop} {tc : Nat → ClassId} {D : va_G} {A : Nat → Prop} {r : Nat → Nat} {H : Heap} {locs : List Loc} {cells slots : Nat} {sl : Array Slot} {st0 rest : List Value} {a : Array Value}
    (hr : va_Run p l e R s m args below meth c H locs cells slots bc1 bs1 (F0 m pc sl st0) rest (am_Q tc D r w.length F1 (va_A (am_cw tc r w) H.size) a) (va_A (am_cw tc r w) H.size)) (hS : am_Sm sc tc D A s r w H locs) (hA : ∀ q, s.heap.size ≤ q → A q)
    (kk : ∀ (v : Option Value) (w1 : am_W) (r1 : Nat → Nat) (H1 : Heap) (locs1 : List Loc), F1 v w1 → am_Sm sc tc D A s r1 w1 H1 locs1 → (∀ a, a ≤ w.length → r1 a = r a) → w.length ≤ w1.length → am_wo w1.length v → W p l e R s m args below meth c H1 locs1 (cells + bc1) (slots + bs1) Q (F0 m (pc + 3) sl ((v.map (am_cv r1)).toList ++ rest))) :
    W p l e R s m args below meth c H locs cells slots Q (F0 m pc sl st0) := by
  intro T hT X
  obtain ⟨v, st₀, t, T', L, h0, X', hL, e1, e2, ⟨⟨v1, w1, r1, hv, hF, hw1, hx, hle, hwo, hP1, hD1⟩, hz, hk⟩, st2⟩ := hr T hT X
  cases hv
  have hf := am_free hS hA
  rw [h0] at hz hk
  have hS1 : va_S A s.heap T'.heap (locs ++ L) := ⟨Nat.le_trans hS.2.2.2.1.1 (by rw [e1]; exact hz), fun q g1 g2 => by rw [e1, hk q (Nat.lt_of_lt_of_le g1 hS.2.2.2.1.1) (fun z => g2 (hf q z))]; exact hS.2.2.2.1.2.1 q g1 g2, fun q hq => by
    rcases List.mem_append.mp hq with h | h
    · exact hS.2.2.2.1.2.2 q h
    · exact hf _ (hL q h)⟩
  obtain ⟨t2, a1, b1⟩ := kk v1 w1 r1 T'.heap (locs ++ L) hF ⟨hw1, by rw [e1]; exact hP1, hD1.weaken (fun _ _ _ h => hf _ h), hS1, am_X_ext (hx 0 (Nat.zero_le _)) hS.2.2.2.2⟩ hx hle hwo T' rfl X'
  exact ⟨t2, st2 t2 a1, b1⟩
theorem am_cat (r : Nat → Nat) (st : List Value) : ((st.map (am_cv r)).map fun v => v.category) = st.map fun v => v.category := by
  rw [List.map_map]; apply List.map_congr_left; intro v _; exact am_cv_cat r v
theorem am_blind {tc : Nat → ClassId} {D : va_G} {r : Nat → Nat} {sz : Nat} {av : List Value} : FrameBlind (va_Pc av (am_Pre tc D r w sz)) := fun a U g mk q => by
  obtain ⟨q0, q1, qP, qK, qD, qN⟩ := q
  exact ⟨q0, q1, qP, va_K.moved (u := U) (U := U.calling g mk a) (Vm.Alike.refl U.vm) qK, qD, fun x hx => va_Nw.same (u := U) (U := U.calling g mk a) (am_Nw_onT (List.mem_filter.mp hx).2) rfl (qN x hx)⟩
theorem am_pre {tc : Nat → ClassId} {D : va_G} {A : Nat → Prop} {p : Program} {R : Room} {s : State} {m : MethodId} {args : Array Value} {meth : Method} {c : Code} {r : Nat → Nat} {H : Heap} {locs : List Loc} {av : List Value} (C0 : am_Cx M d tc D A p R s m args meth c) (hS : am_Sm sc tc D A s r w H locs) : ∀ U : State, U.heap = H → s.WarmedH U.vm → va_Pc av (am_Pre tc D r w H.size) av.toArray U := fun U hU hW =>
  ⟨rfl, by rw [hU], by rw [hU]; exact hS.2.1, va_K.moved hW.alike C0.2.2.2.2.2.2.2.1, hS.2.2.1.weaken (fun _ _ _ _ => trivial), fun x hx => am_Nw_warm (List.mem_filter.mp hx).2 hW (C0.2.2.2.2.2.2.1 x hx)⟩
/-- what goes on behind a call -/
theorem am_back {p : Program} {l : Launch} {e : Env} {R : Room} {s : State} {m : MethodId} {args : Array Value} {below : List Frame} {meth : Method} {c : Code} {Q : State → Prop} {tc : Nat → ClassId} {D : va_G} {A : Nat → Prop} {r : Nat → Nat} {cells slots mc ms : Nat} {sl : Array Slot}
    (k : ∀ v w1, F1 v w1 → am_Wp sc M d bc bs (pc + 3) ls (v.toList ++ st) w1 F) (C0 : am_Cx M d tc D A p R s m args meth c) (hl : lv_has sl M.2.2.1 (am_cl r ls)) (wl : am_wl w.length ls) (ws : am_ws w.length st) (h1 : cells + (bc + bc1) ≤ mc) (h2 : slots + (bs + bs1) ≤ ms) (h3 : mc ≤ R.cells) (h4 : ms ≤ R.slots) (hE : am_End sc M p l e R s m args below meth c Q tc D A mc ms r w.length F) :
    ∀ (v : Option Value) (w1 : am_W) (r1 : Nat → Nat) (H1 : Heap) (locs1 : List Loc), F1 v w1 → am_Sm sc tc D A s r1 w1 H1 locs1 → (∀ a, a ≤ w.length → r1 a = r a) → w.length ≤ w1.length → am_wo w1.length v → W p l e R s m args below meth c H1 locs1 (cells + bc1) (slots + bs1) Q (F0 m (pc + 3) sl ((v.map (am_cv r1)).toList ++ st.map (am_cv r))) := by
  intro v w1 r1 H1 locs1 hF hS hx hle hwo
  have hst : am_ws w1.length (v.toList ++ st) := by
    cases v with
    | none => exact am_ws_mono hle ws
    | some x => exact ⟨hwo x rfl, am_ws_mono hle ws⟩
  have k9 := k v w1 hF p l e R s m args below meth c Q tc D A C0 r1 H1 locs1 (cells + bc1) (slots + bs1) mc ms sl hS (by rw [am_cl_ext hx wl]; exact hl) (am_wl_mono hle wl) hst (by omega) (by omega) h3 h4 (am_End_up hx hle hE)
  have e9 : (v.toList ++ st).map (am_cv r1) = (v.map (am_cv r1)).toList ++ st.map (am_cv r) := by
    rw [List.map_append, am_cs_ext hx ws]
    cases v <;> rfl
  rw [e9] at k9
  exact k9
theorem am_args {r : Nat → Nat} {st0 : List Value} {a : Nat} (hst : st0 = as.reverse ++ .ref a :: st) : st0.map (am_cv r) = (as.map (am_cv r)).reverse ++ .ref (r (a + 1)) :: st.map (am_cv r) := by
  rw [hst, List.map_append, List.map_reverse]; rfl
theorem am_argsS {r : Nat → Nat} {st0 : List Value} (hst : st0 = as.reverse ++ st) : st0.map (am_cv r) = (as.map (am_cv r)).reverse ++ st.map (am_cv r) := by
  rw [hst, List.map_append, List.map_reverse]
theorem am_args_ws {n a : Nat} {st0 : List Value} (hst : st0 = as.reverse ++ .ref a :: st) (h : am_ws n st0) : am_ws n (.ref a :: as) ∧ am_ws n st := by
  subst hst
  exact ⟨⟨(am_ws_r h).1, am_ws_rev (am_ws_l h)⟩, (am_ws_r h).2⟩
theorem am_argsS_ws {n : Nat} {st0 : List Value} (hst : st0 = as.reverse ++ st) (h : am_ws n st0) : am_ws n as ∧ am_ws n st := by
  subst hst
  exact ⟨am_ws_rev (am_ws_l h), am_ws_r h⟩
theorem wp_callV {n a ix ci d1 : Nat} {fs : List Value} {T : u_T} {N : Nat} {st0 : List Value} (hd : decode M.2.1 pc = .ok (.invokevirtual ix, 3)) (hq : pc + 3 = q) (hB : am_Bd M1 n) (hlink : Cond.methodLink M.1.cls ix M1.1 ∈ lw_tbl) (hin : Cond.instanceMethod M1.1 ∈ lw_tbl) (hsel : Cond.selects M1.1.cls M1.1 M1.1 ∈ lw_tbl) (hci : vwCl[ci]? = some (M1.1.cls, T, N)) 
    (hn : as.length = n) (hst : st0 = as.reverse ++ .ref a :: st) (hrm : (st.map fun v => v.category).sum ≤ 8) (hlen : (lg_sl (.ref a :: as)).length ≤ M1.2.2.1) (hc : w[a]? = some (.inr (ci, fs)))
    (hdd : d1 + 1 ≤ d) (h : am_Wp none M1 d1 bc1 bs1 0 (lv_args 0 (.ref a :: as)) [] w F1) (k : ∀ v w1, F1 v w1 → am_Wp sc M d bc bs q ls (v.toList ++ st) w1 F) : am_Wp sc M d (bc + bc1) (bs + bs1) pc ls st0 w F := by
  subst hq
  intro p l e R s m args below meth c Q tc D A C0 r H locs cells slots mc ms sl hS hl wl ws h1 h2 h3 h4 hE
  obtain ⟨wa, wst⟩ := am_args_ws hst ws
  have ht := C0.2.2.2.2.2.1
  have hfr := C0.2.2.2.2.2.2.2.2.2.2.2
  have hm := am_met hB hlen h l tc D r H.size hS.1 wa
  rw [am_args (r := r) hst]
  have hgc : Cond.code M1.1 M1.2.1 M1.2.2.1 M1.2.2.2 ∈ am_good := am_in hB.2.1 rfl
  refine am_call (F1 := F1) (va_runV (C := M1.1.cls) (As := as.map (am_cv r)) (rest := st.map (am_cv r)) (b := r (a + 1)) (n := n) ⟨C0.1, C0.2.1, C0.2.2.2.1, C0.2.2.2.2.1, ht⟩ hm
    ⟨callB_of (ws' := am_good) n ht (am_goodC hgc) rfl rfl rfl (ht _ (am_in hB.2.2.1 rfl)) (ht _ (am_in hlink rfl)) hB.2.2.2.1 ⟨by show d1 + 1 ≤ R.frames; omega, by have := hB.2.2.2.2; show 8 + (M1.2.2.1 + 11) + d1 * 64 ≤ R.locals; omega⟩, ht _ (am_in hin rfl), ht _ (am_in hsel rfl)⟩
    ⟨am_blind, va_recv C0.2.2.2.2.2.2.2.1 hS.2.1 hci (am_cw_at hc), am_pre C0 hS⟩ rfl (by rw [List.length_map]; exact hn) hl.1 rfl (lv_room (by rw [am_cat]; exact hrm)) hd ⟨by omega, by omega⟩) hS C0.2.2.2.2.2.2.2.2.2.2.1 (am_back k C0 hl wl wst h1 h2 h3 h4 hE)
theorem wp_callVN {n a ix ci d1 : Nat} {host : String} {fs : List Value} {T : u_T} {N : Nat} {st0 : List Value} (hd : decode M.2.1 pc = .ok (.invokevirtual ix, 3)) (hq : pc + 3 = q) (hB : am_Bd M1 n) (hlink : Cond.methodLinkNest M.1.cls ix M1.1 host ∈ lw_tbl) (hin : Cond.instanceMethod M1.1 ∈ lw_tbl) (hsel : Cond.selects M1.1.cls M1.1 M1.1 ∈ lw_tbl) (hci : vwCl[ci]? = some (M1.1.cls, T, N)) 
    (hn : as.length = n) (hst : st0 = as.reverse ++ .ref a :: st) (hrm : (st.map fun v => v.category).sum ≤ 8) (hlen : (lg_sl (.ref a :: as)).length ≤ M1.2.2.1) (hc : w[a]? = some (.inr (ci, fs)))
    (hdd : d1 + 1 ≤ d) (h : am_Wp none M1 d1 bc1 bs1 0 (lv_args 0 (.ref a :: as)) [] w F1) (k : ∀ v w1, F1 v w1 → am_Wp sc M d bc bs q ls (v.toList ++ st) w1 F) : am_Wp sc M d (bc + bc1) (bs + bs1) pc ls st0 w F := by
  subst hq
  intro p l e R s m args below meth c Q tc D A C0 r H locs cells slots mc ms sl hS hl wl ws h1 h2 h3 h4 hE
  obtain ⟨wa, wst⟩ := am_args_ws hst ws
  have ht := C0.2.2.2.2.2.1
  have hfr := C0.2.2.2.2.2.2.2.2.2.2.2
  have hm := am_met hB hlen h l tc D r H.size hS.1 wa
  rw [am_args (r := r) hst]
  have hgc : Cond.code M1.1 M1.2.1 M1.2.2.1 M1.2.2.2 ∈ am_good := am_in hB.2.1 rfl
  refine am_call (F1 := F1) (va_runVN (C := M1.1.cls) (As := as.map (am_cv r)) (rest := st.map (am_cv r)) (b := r (a + 1)) (n := n) ⟨C0.1, C0.2.1, C0.2.2.2.1, C0.2.2.2.2.1, ht⟩ hm
    ⟨va_cnB (ws' := am_good) n ht (am_goodC hgc) rfl rfl rfl (C0.2.2.2.2.2.2.1 _ (am_inN hlink rfl)) (ht _ (am_in hB.2.2.1 rfl)) hB.2.2.2.1 ⟨by show d1 + 1 ≤ R.frames; omega, by have := hB.2.2.2.2; show 8 + (M1.2.2.1 + 11) + d1 * 64 ≤ R.locals; omega⟩, ht _ (am_in hin rfl), ht _ (am_in hsel rfl)⟩
    ⟨am_blind, va_recv C0.2.2.2.2.2.2.2.1 hS.2.1 hci (am_cw_at hc), am_pre C0 hS⟩ rfl (by rw [List.length_map]; exact hn) hl.1 rfl (lv_room (by rw [am_cat]; exact hrm)) hd ⟨by omega, by omega⟩) hS C0.2.2.2.2.2.2.2.2.2.2.1 (am_back k C0 hl wl wst h1 h2 h3 h4 hE)
theorem wp_callS {n ix d1 : Nat} {st0 : List Value} (hd : decode M.2.1 pc = .ok (.invokestatic ix, 3)) (hq : pc + 3 = q) (hB : am_Bd M1 n) (hlink : Cond.methodLink M.1.cls ix M1.1 ∈ lw_tbl) (hsta : Cond.static M1.1 ∈ lw_tbl) 
    (hn : as.length = n) (hst : st0 = as.reverse ++ st) (hrm : (st.map fun v => v.category).sum ≤ 8) (hlen : (lg_sl as).length ≤ M1.2.2.1)
    (hdd : d1 + 1 ≤ d) (h : am_Wp none M1 d1 bc1 bs1 0 (lv_args 0 as) [] w F1) (k : ∀ v w1, F1 v w1 → am_Wp sc M d bc bs q ls (v.toList ++ st) w1 F) : am_Wp sc M d (bc + bc1) (bs + bs1) pc ls st0 w F := by
  subst hq
  intro p l e R s m args below meth c Q tc D A C0 r H locs cells slots mc ms sl hS hl wl ws h1 h2 h3 h4 hE
  obtain ⟨wa, wst⟩ := am_argsS_ws hst ws
  have ht := C0.2.2.2.2.2.1
  have hfr := C0.2.2.2.2.2.2.2.2.2.2.2
  have hm := am_met hB hlen h l tc D r H.size hS.1 wa
  rw [am_argsS (r := r) hst]
  have hgc : Cond.code M1.1 M1.2.1 M1.2.2.1 M1.2.2.2 ∈ am_good := am_in hB.2.1 rfl
  refine am_call (F1 := F1) (va_runS (As := as.map (am_cv r)) (rest := st.map (am_cv r)) (n := n) ⟨C0.1, C0.2.1, C0.2.2.2.1, C0.2.2.2.2.1, ht⟩ hm
    ⟨callB_of (ws' := am_good) n ht (am_goodC hgc) rfl rfl rfl (ht _ (am_in hB.2.2.1 rfl)) (ht _ (am_in hlink rfl)) hB.2.2.2.1 ⟨by show d1 + 1 ≤ R.frames; omega, by have := hB.2.2.2.2; show 8 + (M1.2.2.1 + 11) + d1 * 64 ≤ R.locals; omega⟩, ht _ (am_in hsta rfl)⟩
    ⟨am_blind, am_pre C0 hS⟩ rfl (by rw [List.length_map]; exact hn) hl.1 rfl (lv_room (by rw [am_cat]; exact hrm)) hd ⟨by omega, by omega⟩) hS C0.2.2.2.2.2.2.2.2.2.2.1 (am_back k C0 hl wl wst h1 h2 h3 h4 hE)
theorem wp_callSN {n ix d1 : Nat} {host : String} {st0 : List Value} (hd : decode M.2.1 pc = .ok (.invokestatic ix, 3)) (hq : pc + 3 = q) (hB : am_Bd M1 n) (hlink : Cond.methodLinkNest M.1.cls ix M1.1 host ∈ lw_tbl) (hsta : Cond.static M1.1 ∈ lw_tbl) 
    (hn : as.length = n) (hst : st0 = as.reverse ++ st) (hrm : (st.map fun v => v.category).sum ≤ 8) (hlen : (lg_sl as).length ≤ M1.2.2.1)
    (hdd : d1 + 1 ≤ d) (h : am_Wp none M1 d1 bc1 bs1 0 (lv_args 0 as) [] w F1) (k : ∀ v w1, F1 v w1 → am_Wp sc M d bc bs q ls (v.toList ++ st) w1 F) : am_Wp sc M d (bc + bc1) (bs + bs1) pc ls st0 w F := by
  subst hq
  intro p l e R s m args below meth c Q tc D A C0 r H locs cells slots mc ms sl hS hl wl ws h1 h2 h3 h4 hE
  obtain ⟨wa, wst⟩ := am_argsS_ws hst ws
  have ht := C0.2.2.2.2.2.1
  have hfr := C0.2.2.2.2.2.2.2.2.2.2.2
  have hm := am_met hB hlen h l tc D r H.size hS.1 wa
  rw [am_argsS (r := r) hst]
  have hgc : Cond.code M1.1 M1.2.1 M1.2.2.1 M1.2.2.2 ∈ am_good := am_in hB.2.1 rfl
  refine am_call (F1 := F1) (va_runSN (As := as.map (am_cv r)) (rest := st.map (am_cv r)) (n := n) ⟨C0.1, C0.2.1, C0.2.2.2.1, C0.2.2.2.2.1, ht⟩ hm
    ⟨va_cnB (ws' := am_good) n ht (am_goodC hgc) rfl rfl rfl (C0.2.2.2.2.2.2.1 _ (am_inN hlink rfl)) (ht _ (am_in hB.2.2.1 rfl)) hB.2.2.2.1 ⟨by show d1 + 1 ≤ R.frames; omega, by have := hB.2.2.2.2; show 8 + (M1.2.2.1 + 11) + d1 * 64 ≤ R.locals; omega⟩, ht _ (am_in hsta rfl), trivial⟩
    ⟨am_blind, am_pre C0 hS⟩ rfl (by rw [List.length_map]; exact hn) hl.1 rfl (lv_room (by rw [am_cat]; exact hrm)) hd ⟨by omega, by omega⟩) hS C0.2.2.2.2.2.2.2.2.2.2.1 (am_back k C0 hl wl wst h1 h2 h3 h4 hE)
theorem wp_callI {n a ix d1 : Nat} {st0 : List Value} (hd : decode M.2.1 pc = .ok (.invokespecial ix, 3)) (hq : pc + 3 = q) (hB : am_Bd M1 n) (hret : M1.2.2.2 = none) (hnm : M1.1.name = "<init>") (hlink : Cond.methodLink M.1.cls ix M1.1 ∈ lw_tbl) (hin : Cond.instanceMethod M1.1 ∈ lw_tbl) 
    (hn : as.length = n) (hst : st0 = as.reverse ++ .ref a :: st) (hrm : (st.map fun v => v.category).sum ≤ 8) (hlen : (lg_sl (.ref a :: as)).length ≤ M1.2.2.1)
    (hdd : d1 + 1 ≤ d) (h : am_Wp none M1 d1 bc1 bs1 0 (lv_args 0 (.ref a :: as)) [] w F1) (k : ∀ v w1, F1 v w1 → am_Wp sc M d bc bs q ls (v.toList ++ st) w1 F) : am_Wp sc M d (bc + bc1) (bs + bs1) pc ls st0 w F := by
  subst hq
  intro p l e R s m args below meth c Q tc D A C0 r H locs cells slots mc ms sl hS hl wl ws h1 h2 h3 h4 hE
  obtain ⟨wa, wst⟩ := am_args_ws hst ws
  have ht := C0.2.2.2.2.2.1
  have hfr := C0.2.2.2.2.2.2.2.2.2.2.2
  have hm := am_met hB hlen h l tc D r H.size hS.1 wa
  rw [am_args (r := r) hst]
  have hcode := hB.2.1
  rw [hret] at hm hcode
  have hgc : Cond.code M1.1 M1.2.1 M1.2.2.1 none ∈ am_good := am_in hcode rfl
  refine am_call (F1 := F1) (va_runI (As := as.map (am_cv r)) (rest := st.map (am_cv r)) (b := r (a + 1)) (n := n) ⟨C0.1, C0.2.1, C0.2.2.2.1, C0.2.2.2.2.1, ht⟩ hm
    ⟨callB_of (ws' := am_good) n ht (am_goodC hgc) rfl rfl rfl (ht _ (am_in hB.2.2.1 rfl)) (ht _ (am_in hlink rfl)) hB.2.2.2.1 ⟨by show d1 + 1 ≤ R.frames; omega, by have := hB.2.2.2.2; show 8 + (M1.2.2.1 + 11) + d1 * 64 ≤ R.locals; omega⟩, hnm, ht _ (am_in hin rfl)⟩
    ⟨am_blind, am_pre C0 hS⟩ rfl (by rw [List.length_map]; exact hn) hl.1 rfl (lv_room (by rw [am_cat]; exact hrm)) hd ⟨by omega, by omega⟩) hS C0.2.2.2.2.2.2.2.2.2.2.1 (am_back k C0 hl wl wst h1 h2 h3 h4 hE)
theorem wp_callIN {n a ix d1 : Nat} {host : String} {st0 : List Value} (hd : decode M.2.1 pc = .ok (.invokespecial ix, 3)) (hq : pc + 3 = q) (hB : am_Bd M1 n) (hret : M1.2.2.2 = none) (hnm : M1.1.name = "<init>") (hlink : Cond.methodLinkNest M.1.cls ix M1.1 host ∈ lw_tbl) (hin : Cond.instanceMethod M1.1 ∈ lw_tbl) 
    (hn : as.length = n) (hst : st0 = as.reverse ++ .ref a :: st) (hrm : (st.map fun v => v.category).sum ≤ 8) (hlen : (lg_sl (.ref a :: as)).length ≤ M1.2.2.1)
    (hdd : d1 + 1 ≤ d) (h : am_Wp none M1 d1 bc1 bs1 0 (lv_args 0 (.ref a :: as)) [] w F1) (k : ∀ v w1, F1 v w1 → am_Wp sc M d bc bs q ls (v.toList ++ st) w1 F) : am_Wp sc M d (bc + bc1) (bs + bs1) pc ls st0 w F := by
  subst hq
  intro p l e R s m args below meth c Q tc D A C0 r H locs cells slots mc ms sl hS hl wl ws h1 h2 h3 h4 hE
  obtain ⟨wa, wst⟩ := am_args_ws hst ws
  have ht := C0.2.2.2.2.2.1
  have hfr := C0.2.2.2.2.2.2.2.2.2.2.2
  have hm := am_met hB hlen h l tc D r H.size hS.1 wa
  rw [am_args (r := r) hst]
  have hcode := hB.2.1
  rw [hret] at hm hcode
  have hgc : Cond.code M1.1 M1.2.1 M1.2.2.1 none ∈ am_good := am_in hcode rfl
  refine am_call (F1 := F1) (va_runIN (As := as.map (am_cv r)) (rest := st.map (am_cv r)) (b := r (a + 1)) (n := n) ⟨C0.1, C0.2.1, C0.2.2.2.1, C0.2.2.2.2.1, ht⟩ hm
    ⟨va_cnB (ws' := am_good) n ht (am_goodC hgc) rfl rfl rfl (C0.2.2.2.2.2.2.1 _ (am_inN hlink rfl)) (ht _ (am_in hB.2.2.1 rfl)) hB.2.2.2.1 ⟨by show d1 + 1 ≤ R.frames; omega, by have := hB.2.2.2.2; show 8 + (M1.2.2.1 + 11) + d1 * 64 ≤ R.locals; omega⟩, hnm, ht _ (am_in hin rfl)⟩
    ⟨am_blind, am_pre C0 hS⟩ rfl (by rw [List.length_map]; exact hn) hl.1 rfl (lv_room (by rw [am_cat]; exact hrm)) hd ⟨by omega, by omega⟩) hS C0.2.2.2.2.2.2.2.2.2.2.1 (am_back k C0 hl wl wst h1 h2 h3 h4 hE)
/-- System.arraycopy between two rows of ints -/
theorem wp_copyi {a b n0 n1 ix : Nat} {f g : Nat → Int32} {sp dp n : Int32} {w' : am_W} (hd : decode M.2.1 pc = .ok (.invokestatic ix, 3)) (hq : pc + 3 = q) (hlink : Cond.methodLink M.1.cls ix arraycopyName ∈ lw_tbl) (hnat : Cond.native arraycopyName ∈ lw_tbl) (hsta : Cond.static arraycopyName ∈ lw_tbl) (hini : Cond.initialized "java/lang/System" ∈ lw_tbl) 
    (hc0 : w[a]? = some (.inl (0, n0, .inl f))) (hc1 : w[b]? = some (.inl (0, n1, .inl g))) (g1 : ¬ sp < 0) (g2 : ¬ dp < 0) (g3 : ¬ n < 0) (g4 : sp.toNatClampNeg + n.toNatClampNeg ≤ n0) (g5 : dp.toNatClampNeg + n.toNatClampNeg ≤ n1) (hrm : (st.map fun v => v.category).sum ≤ 8) (hdd : 1 ≤ d)
    (hw : w.set b (.inl (0, n1, .inl (va_cpy f g sp.toNatClampNeg dp.toNatClampNeg n.toNatClampNeg))) = w') (k : am_Wp sc M d bc bs q ls st w' F) : am_Wp sc M d bc bs pc ls (.int n :: .int dp :: .ref b :: .int sp :: .ref a :: st) w F := by
  subst hq
  subst hw
  intro p l e R s m args below meth c Q tc D A C0 r H locs cells slots mc ms sl hS hl wl ws h1 h2 h3 h4 hE
  have ht := C0.2.2.2.2.2.1
  have hfr := C0.2.2.2.2.2.2.2.2.2.2.2
  have hnw : nativeFrameWords "java/lang/System" "arraycopy" 5 ≤ 40 := by decide +kernel
  refine va_copyi C0.1 C0.2.1 (by rw [C0.2.2.2.1]; exact hl.1.symm) C0.2.2.2.2.1 (ht _ (am_in hlink rfl)) (ht _ (am_in hnat rfl)) (ht _ (am_in hsta rfl)) (ht _ (am_in hini rfl)) C0.2.2.2.2.2.2.2.1 hS.2.1 hS.2.2.1 hS.2.2.2.1 a b 0 0 (am_cw_at hc0) (am_cw_at hc1) (am_tys0 tc) (am_tys0 tc) rfl g1 g2 g3 g4 g5 (fun i hi => rfl) (by omega) (by rw [am_cat]; omega) hd (fun H1 locs1 hP hD hS1 => ?_)
  exact k p l e R s m args below meth c Q tc D A C0 r H1 locs1 cells slots mc ms sl (am_Sm_set hS trivial hP hD hS1) hl (by rw [List.length_set]; exact wl) (by rw [List.length_set]; exact ws.2.2.2.2.2) h1 h2 h3 h4 (by rw [List.length_set]; exact hE)
/-- just this answer, just this world -/
def am_R (v : Option Value) (w : am_W) : Option Value → am_W → Prop := fun v1 w1 => v1 = v ∧ w1 = w
theorem wp_cVr {n a ix ci d1 : Nat} {fs : List Value} {T : u_T} {N : Nat} {st0 : List Value} {w' : am_W} {x : Value} (hd : decode M.2.1 pc = .ok (.invokevirtual ix, 3)) (hq : pc + 3 = q) (hB : am_Bd M1 n) (hlink : Cond.methodLink M.1.cls ix M1.1 ∈ lw_tbl) (hin : Cond.instanceMethod M1.1 ∈ lw_tbl) (hsel : Cond.selects M1.1.cls M1.1 M1.1 ∈ lw_tbl) (hci : vwCl[ci]? = some (M1.1.cls, T, N)) (hn : as.length = n) (hst : st0 = as.reverse ++ (.ref a :: st)) (hrm : (st.map fun v => v.category).sum ≤ 8) (hlen : (lg_sl (.ref a :: as)).length ≤ M1.2.2.1) (hc : w[a]? = some (.inr (ci, fs))) (hdd : d1 + 1 ≤ d) (h : am_Wp none M1 d1 0 0 0 (lv_args 0 (.ref a :: as)) [] w (am_R (some x) w')) (k : am_Wp sc M d bc bs q ls (x :: st) w' F) : am_Wp sc M d bc bs pc ls st0 w F :=
  wp_callV (bc1 := 0) (bs1 := 0) hd hq hB hlink hin hsel hci hn hst hrm hlen hc hdd h (fun v w1 e => by obtain ⟨rfl, rfl⟩ := e; exact k)
theorem wp_cVv {n a ix ci d1 : Nat} {fs : List Value} {T : u_T} {N : Nat} {st0 : List Value} {w' : am_W} (hd : decode M.2.1 pc = .ok (.invokevirtual ix, 3)) (hq : pc + 3 = q) (hB : am_Bd M1 n) (hlink : Cond.methodLink M.1.cls ix M1.1 ∈ lw_tbl) (hin : Cond.instanceMethod M1.1 ∈ lw_tbl) (hsel : Cond.selects M1.1.cls M1.1 M1.1 ∈ lw_tbl) (hci : vwCl[ci]? = some (M1.1.cls, T, N)) (hn : as.length = n) (hst : st0 = as.reverse ++ (.ref a :: st)) (hrm : (st.map fun v => v.category).sum ≤ 8) (hlen : (lg_sl (.ref a :: as)).length ≤ M1.2.2.1) (hc : w[a]? = some (.inr (ci, fs))) (hdd : d1 + 1 ≤ d) (h : am_Wp none M1 d1 0 0 0 (lv_args 0 (.ref a :: as)) [] w (am_R (none) w')) (k : am_Wp sc M d bc bs q ls st w' F) : am_Wp sc M d bc bs pc ls st0 w F :=
  wp_callV (bc1 := 0) (bs1 := 0) hd hq hB hlink hin hsel hci hn hst hrm hlen hc hdd h (fun v w1 e => by obtain ⟨rfl, rfl⟩ := e; exact k)
theorem wp_cVNr {n a ix ci d1 : Nat} {host : String} {fs : List Value} {T : u_T} {N : Nat} {st0 : List Value} {w' : am_W} {x : Value} (hd : decode M.2.1 pc = .ok (.invokevirtual ix, 3)) (hq : pc + 3 = q) (hB : am_Bd M1 n) (hlink : Cond.methodLinkNest M.1.cls ix M1.1 host ∈ lw_tbl) (hin : Cond.instanceMethod M1.1 ∈ lw_tbl) (hsel : Cond.selects M1.1.cls M1.1 M1.1 ∈ lw_tbl) (hci : vwCl[ci]? = some (M1.1.cls, T, N)) (hn : as.length = n) (hst : st0 = as.reverse ++ (.ref a :: st)) (hrm : (st.map fun v => v.category).sum ≤ 8) (hlen : (lg_sl (.ref a :: as)).length ≤ M1.2.2.1) (hc : w[a]? = some (.inr (ci, fs))) (hdd : d1 + 1 ≤ d) (h : am_Wp none M1 d1 0 0 0 (lv_args 0 (.ref a :: as)) [] w (am_R (some x) w')) (k : am_Wp sc M d bc bs q ls (x :: st) w' F) : am_Wp sc M d bc bs pc ls st0 w F :=
  wp_callVN (bc1 := 0) (bs1 := 0) hd hq hB hlink hin hsel hci hn hst hrm hlen hc hdd h (fun v w1 e => by obtain ⟨rfl, rfl⟩ := e; exact k)
theorem wp_cVNv {n a ix ci d1 : Nat} {host : String} {fs : List Value} {T : u_T} {N : Nat} {st0 : List Value} {w' : am_W} (hd : decode M.2.1 pc = .ok (.invokevirtual ix, 3)) (hq : pc + 3 = q) (hB : am_Bd M1 n) (hlink : Cond.methodLinkNest M.1.cls ix M1.1 host ∈ lw_tbl) (hin : Cond.instanceMethod M1.1 ∈ lw_tbl) (hsel : Cond.selects M1.1.cls M1.1 M1.1 ∈ lw_tbl) (hci : vwCl[ci]? = some (M1.1.cls, T, N)) (hn : as.length = n) (hst : st0 = as.reverse ++ (.ref a :: st)) (hrm : (st.map fun v => v.category).sum ≤ 8) (hlen : (lg_sl (.ref a :: as)).length ≤ M1.2.2.1) (hc : w[a]? = some (.inr (ci, fs))) (hdd : d1 + 1 ≤ d) (h : am_Wp none M1 d1 0 0 0 (lv_args 0 (.ref a :: as)) [] w (am_R (none) w')) (k : am_Wp sc M d bc bs q ls st w' F) : am_Wp sc M d bc bs pc ls st0 w F :=
  wp_callVN (bc1 := 0) (bs1 := 0) hd hq hB hlink hin hsel hci hn hst hrm hlen hc hdd h (fun v w1 e => by obtain ⟨rfl, rfl⟩ := e; exact k)
theorem wp_cSr {n ix d1 : Nat} {st0 : List Value} {w' : am_W} {x : Value} (hd : decode M.2.1 pc = .ok (.invokestatic ix, 3)) (hq : pc + 3 = q) (hB : am_Bd M1 n) (hlink : Cond.methodLink M.1.cls ix M1.1 ∈ lw_tbl) (hsta : Cond.static M1.1 ∈ lw_tbl) (hn : as.length = n) (hst : st0 = as.reverse ++ (st)) (hrm : (st.map fun v => v.category).sum ≤ 8) (hlen : (lg_sl (as)).length ≤ M1.2.2.1)  (hdd : d1 + 1 ≤ d) (h : am_Wp none M1 d1 0 0 0 (lv_args 0 (as)) [] w (am_R (some x) w')) (k : am_Wp sc M d bc bs q ls (x :: st) w' F) : am_Wp sc M d bc bs pc ls st0 w F :=
  wp_callS (bc1 := 0) (bs1 := 0) hd hq hB hlink hsta hn hst hrm hlen  hdd h (fun v w1 e => by obtain ⟨rfl, rfl⟩ := e; exact k)
theorem wp_cSv {n ix d1 : Nat} {st0 : List Value} {w' : am_W} (hd : decode M.2.1 pc = .ok (.invokestatic ix, 3)) (hq : pc + 3 = q) (hB : am_Bd M1 n) (hlink : Cond.methodLink M.1.cls ix M1.1 ∈ lw_tbl) (hsta : Cond.static M1.1 ∈ lw_tbl) (hn : as.length = n) (hst : st0 = as.reverse ++ (st)) (hrm : (st.map fun v => v.category).sum ≤ 8) (hlen : (lg_sl (as)).length ≤ M1.2.2.1)  (hdd : d1 + 1 ≤ d) (h : am_Wp none M1 d1 0 0 0 (lv_args 0 (as)) [] w (am_R (none) w')) (k : am_Wp sc M d bc bs q ls st w' F) : am_Wp sc M d bc bs pc ls st0 w F :=
  wp_callS (bc1 := 0) (bs1 := 0) hd hq hB hlink hsta hn hst hrm hlen  hdd h (fun v w1 e => by obtain ⟨rfl, rfl⟩ := e; exact k)
theorem wp_cSNr {n ix d1 : Nat} {host : String} {st0 : List Value} {w' : am_W} {x : Value} (hd : decode M.2.1 pc = .ok (.invokestatic ix, 3)) (hq : pc + 3 = q) (hB : am_Bd M1 n) (hlink : Cond.methodLinkNest M.1.cls ix M1.1 host ∈ lw_tbl) (hsta : Cond.static M1.1 ∈ lw_tbl) (hn : as.length = n) (hst : st0 = as.reverse ++ (st)) (hrm : (st.map fun v => v.category).sum ≤ 8) (hlen : (lg_sl (as)).length ≤ M1.2.2.1)  (hdd : d1 + 1 ≤ d) (h : am_Wp none M1 d1 0 0 0 (lv_args 0 (as)) [] w (am_R (some x) w')) (k : am_Wp sc M d bc bs q ls (x :: st) w' F) : am_Wp sc M d bc bs pc ls st0 w F :=
  wp_callSN (bc1 := 0) (bs1 := 0) hd hq hB hlink hsta hn hst hrm hlen  hdd h (fun v w1 e => by obtain ⟨rfl, rfl⟩ := e; exact k)
theorem wp_cSNv {n ix d1 : Nat} {host : String} {st0 : List Value} {w' : am_W} (hd : decode M.2.1 pc = .ok (.invokestatic ix, 3)) (hq : pc + 3 = q) (hB : am_Bd M1 n) (hlink : Cond.methodLinkNest M.1.cls ix M1.1 host ∈ lw_tbl) (hsta : Cond.static M1.1 ∈ lw_tbl) (hn : as.length = n) (hst : st0 = as.reverse ++ (st)) (hrm : (st.map fun v => v.category).sum ≤ 8) (hlen : (lg_sl (as)).length ≤ M1.2.2.1)  (hdd : d1 + 1 ≤ d) (h : am_Wp none M1 d1 0 0 0 (lv_args 0 (as)) [] w (am_R (none) w')) (k : am_Wp sc M d bc bs q ls st w' F) : am_Wp sc M d bc bs pc ls st0 w F :=
  wp_callSN (bc1 := 0) (bs1 := 0) hd hq hB hlink hsta hn hst hrm hlen  hdd h (fun v w1 e => by obtain ⟨rfl, rfl⟩ := e; exact k)
end CallRules
end
section
/-! CALL RULES by the number of arguments: r: just this answer; v: no answer, just this world; g: what F1 says -/
section Arity
variable {sc : am_S} {M M1 : am_M} {d bc bs bc1 bs1 pc q : Nat} {ls : am_L} {st : List Value} {w : am_W} {F F1 : Option Value → am_W → Prop}
theorem wp_cV0r {a ix ci d1 : Nat} {fs : List Value} {T : u_T} {N : Nat} {y : Value} {w' : am_W} (hd : decode M.2.1 pc = .ok (.invokevirtual ix, 3)) (hq : pc + 3 = q) (hB : am_Bd M1 0) (hlink : Cond.methodLink M.1.cls ix M1.1 ∈ lw_tbl) (hin : Cond.instanceMethod M1.1 ∈ lw_tbl) (hsel : Cond.selects M1.1.cls M1.1 M1.1 ∈ lw_tbl) (hci : vwCl[ci]? = some (M1.1.cls, T, N)) (hrm : (st.map fun v => v.category).sum ≤ 8) (hlen : (lg_sl ([.ref a] : List Value)).length ≤ M1.2.2.1) (hc : w[a]? = some (.inr (ci, fs))) (hdd : d1 + 1 ≤ d) (h : am_Wp none M1 d1 0 0 0 (lv_args 0 [.ref a]) [] w (am_R (some y) w')) (k : am_Wp sc M d bc bs q ls (y :: st) w' F) : am_Wp sc M d bc bs pc ls (.ref a :: st) w F :=
  wp_cVr (as := []) (st := st) hd hq hB hlink hin hsel hci rfl rfl hrm hlen hc hdd h k
theorem wp_cV0v {a ix ci d1 : Nat} {fs : List Value} {T : u_T} {N : Nat} {w' : am_W} (hd : decode M.2.1 pc = .ok (.invokevirtual ix, 3)) (hq : pc + 3 = q) (hB : am_Bd M1 0) (hlink : Cond.methodLink M.1.cls ix M1.1 ∈ lw_tbl) (hin : Cond.instanceMethod M1.1 ∈ lw_tbl) (hsel : Cond.selects M1.1.cls M1.1 M1.1 ∈ lw_tbl) (hci : vwCl[ci]? = some (M1.1.cls, T, N)) (hrm : (st.map fun v => v.category).sum ≤ 8) (hlen : (lg_sl ([.ref a] : List Value)).length ≤ M1.2.2.1) (hc : w[a]? = some (.inr (ci, fs))) (hdd : d1 + 1 ≤ d) (h : am_Wp none M1 d1 0 0 0 (lv_args 0 [.ref a]) [] w (am_R (none) w')) (k : am_Wp sc M d bc bs q ls st w' F) : am_Wp sc M d bc bs pc ls (.ref a :: st) w F :=
  wp_cVv (as := []) (st := st) hd hq hB hlink hin hsel hci rfl rfl hrm hlen hc hdd h k
theorem wp_cV0g {a ix ci d1 : Nat} {fs : List Value} {T : u_T} {N : Nat} (hd : decode M.2.1 pc = .ok (.invokevirtual ix, 3)) (hq : pc + 3 = q) (hB : am_Bd M1 0) (hlink : Cond.methodLink M.1.cls ix M1.1 ∈ lw_tbl) (hin : Cond.instanceMethod M1.1 ∈ lw_tbl) (hsel : Cond.selects M1.1.cls M1.1 M1.1 ∈ lw_tbl) (hci : vwCl[ci]? = some (M1.1.cls, T, N)) (hrm : (st.map fun v => v.category).sum ≤ 8) (hlen : (lg_sl ([.ref a] : List Value)).length ≤ M1.2.2.1) (hc : w[a]? = some (.inr (ci, fs))) (hdd : d1 + 1 ≤ d) (h : am_Wp none M1 d1 bc1 bs1 0 (lv_args 0 [.ref a]) [] w F1) (k : ∀ v w1, F1 v w1 → am_Wp sc M d bc bs q ls (v.toList ++ st) w1 F) : am_Wp sc M d (bc + bc1) (bs + bs1) pc ls (.ref a :: st) w F :=
  wp_callV (as := []) (st := st) hd hq hB hlink hin hsel hci rfl rfl hrm hlen hc hdd h k
theorem wp_cV1r {a ix ci d1 : Nat} {fs : List Value} {T : u_T} {N : Nat} {x1 : Value} {y : Value} {w' : am_W} (hd : decode M.2.1 pc = .ok (.invokevirtual ix, 3)) (hq : pc + 3 = q) (hB : am_Bd M1 1) (hlink : Cond.methodLink M.1.cls ix M1.1 ∈ lw_tbl) (hin : Cond.instanceMethod M1.1 ∈ lw_tbl) (hsel : Cond.selects M1.1.cls M1.1 M1.1 ∈ lw_tbl) (hci : vwCl[ci]? = some (M1.1.cls, T, N)) (hrm : (st.map fun v => v.category).sum ≤ 8) (hlen : (lg_sl ([.ref a, x1] : List Value)).length ≤ M1.2.2.1) (hc : w[a]? = some (.inr (ci, fs))) (hdd : d1 + 1 ≤ d) (h : am_Wp none M1 d1 0 0 0 (lv_args 0 [.ref a, x1]) [] w (am_R (some y) w')) (k : am_Wp sc M d bc bs q ls (y :: st) w' F) : am_Wp sc M d bc bs pc ls (x1 :: .ref a :: st) w F :=
  wp_cVr (as := [x1]) (st := st) hd hq hB hlink hin hsel hci rfl rfl hrm hlen hc hdd h k
theorem wp_cV1v {a ix ci d1 : Nat} {fs : List Value} {T : u_T} {N : Nat} {x1 : Value} {w' : am_W} (hd : decode M.2.1 pc = .ok (.invokevirtual ix, 3)) (hq : pc + 3 = q) (hB : am_Bd M1 1) (hlink : Cond.methodLink M.1.cls ix M1.1 ∈ lw_tbl) (hin : Cond.instanceMethod M1.1 ∈ lw_tbl) (hsel : Cond.selects M1.1.cls M1.1 M1.1 ∈ lw_tbl) (hci : vwCl[ci]? = some (M1.1.cls, T, N)) (hrm : (st.map fun v => v.category).sum ≤ 8) (hlen : (lg_sl ([.ref a, x1] : List Value)).length ≤ M1.2.2.1) (hc : w[a]? = some (.inr (ci, fs))) (hdd : d1 + 1 ≤ d) (h : am_Wp none M1 d1 0 0 0 (lv_args 0 [.ref a, x1]) [] w (am_R (none) w')) (k : am_Wp sc M d bc bs q ls st w' F) : am_Wp sc M d bc bs pc ls (x1 :: .ref a :: st) w F :=
  wp_cVv (as := [x1]) (st := st) hd hq hB hlink hin hsel hci rfl rfl hrm hlen hc hdd h k
theorem wp_cV1g {a ix ci d1 : Nat} {fs : List Value} {T : u_T} {N : Nat} {x1 : Value} (hd : decode M.2.1 pc = .ok (.invokevirtual ix, 3)) (hq : pc + 3 = q) (hB : am_Bd M1 1) (hlink : Cond.methodLink M.1.cls ix M1.1 ∈ lw_tbl) (hin : Cond.instanceMethod M1.1 ∈ lw_tbl) (hsel : Cond.selects M1.1.cls M1.1 M1.1 ∈ lw_tbl) (hci : vwCl[ci]? = some (M1.1.cls, T, N)) (hrm : (st.map fun v => v.category).sum ≤ 8) (hlen : (lg_sl ([.ref a, x1] : List Value)).length ≤ M1.2.2.1) (hc : w[a]? = some (.inr (ci, fs))) (hdd : d1 + 1 ≤ d) (h : am_Wp none M1 d1 bc1 bs1 0 (lv_args 0 [.ref a, x1]) [] w F1) (k : ∀ v w1, F1 v w1 → am_Wp sc M d bc bs q ls (v.toList ++ st) w1 F) : am_Wp sc M d (bc + bc1) (bs + bs1) pc ls (x1 :: .ref a :: st) w F :=
  wp_callV (as := [x1]) (st := st) hd hq hB hlink hin hsel hci rfl rfl hrm hlen hc hdd h k
theorem wp_cV2r {a ix ci d1 : Nat} {fs : List Value} {T : u_T} {N : Nat} {x1 x2 : Value} {y : Value} {w' : am_W} (hd : decode M.2.1 pc = .ok (.invokevirtual ix, 3)) (hq : pc + 3 = q) (hB : am_Bd M1 2) (hlink : Cond.methodLink M.1.cls ix M1.1 ∈ lw_tbl) (hin : Cond.instanceMethod M1.1 ∈ lw_tbl) (hsel : Cond.selects M1.1.cls M1.1 M1.1 ∈ lw_tbl) (hci : vwCl[ci]? = some (M1.1.cls, T, N)) (hrm : (st.map fun v => v.category).sum ≤ 8) (hlen : (lg_sl ([.ref a, x1, x2] : List Value)).length ≤ M1.2.2.1) (hc : w[a]? = some (.inr (ci, fs))) (hdd : d1 + 1 ≤ d) (h : am_Wp none M1 d1 0 0 0 (lv_args 0 [.ref a, x1, x2]) [] w (am_R (some y) w')) (k : am_Wp sc M d bc bs q ls (y :: st) w' F) : am_Wp sc M d bc bs pc ls (x2 :: x1 :: .ref a :: st) w F :=
  wp_cVr (as := [x1, x2]) (st := st) hd hq hB hlink hin hsel hci rfl rfl hrm hlen hc hdd h k
theorem wp_cV2v {a ix ci d1 : Nat} {fs : List Value} {T : u_T} {N : Nat} {x1 x2 : Value} {w' : am_W} (hd : decode M.2.1 pc = .ok (.invokevirtual ix, 3)) (hq : pc + 3 = q) (hB : am_Bd M1 2) (hlink : Cond.methodLink M.1.cls ix M1.1 ∈ lw_tbl) (hin : Cond.instanceMethod M1.1 ∈ lw_tbl) (hsel : Cond.selects M1.1.cls M1.1 M1.1 ∈ lw_tbl) (hci : vwCl[ci]? = some (M1.1.cls, T, N)) (hrm : (st.map fun v => v.category).sum ≤ 8) (hlen : (lg_sl ([.ref a, x1, x2] : List Value)).length ≤ M1.2.2.1) (hc : w[a]? = some (.inr (ci, fs))) (hdd : d1 + 1 ≤ d) (h : am_Wp none M1 d1 0 0 0 (lv_args 0 [.ref a, x1, x2]) [] w (am_R (none) w')) (k : am_Wp sc M d bc bs q ls st w' F) : am_Wp sc M d bc bs pc ls (x2 :: x1 :: .ref a :: st) w F :=
  wp_cVv (as := [x1, x2]) (st := st) hd hq hB hlink hin hsel hci rfl rfl hrm hlen hc hdd h k
theorem wp_cV2g {a ix ci d1 : Nat} {fs : List Value} {T : u_T} {N : Nat} {x1 x2 : Value} (hd : decode M.2.1 pc = .ok (.invokevirtual ix, 3)) (hq : pc + 3 = q) (hB : am_Bd M1 2) (hlink : Cond.methodLink M.1.cls ix M1.1 ∈ lw_tbl) (hin : Cond.instanceMethod M1.1 ∈ lw_tbl) (hsel : Cond.selects M1.1.cls M1.1 M1.1 ∈ lw_tbl) (hci : vwCl[ci]? = some (M1.1.cls, T, N)) (hrm : (st.map fun v => v.category).sum ≤ 8) (hlen : (lg_sl ([.ref a, x1, x2] : List Value)).length ≤ M1.2.2.1) (hc : w[a]? = some (.inr (ci, fs))) (hdd : d1 + 1 ≤ d) (h : am_Wp none M1 d1 bc1 bs1 0 (lv_args 0 [.ref a, x1, x2]) [] w F1) (k : ∀ v w1, F1 v w1 → am_Wp sc M d bc bs q ls (v.toList ++ st) w1 F) : am_Wp sc M d (bc + bc1) (bs + bs1) pc ls (x2 :: x1 :: .ref a :: st) w F :=
  wp_callV (as := [x1, x2]) (st := st) hd hq hB hlink hin hsel hci rfl rfl hrm hlen hc hdd h k
theorem wp_cV3r {a ix ci d1 : Nat} {fs : List Value} {T : u_T} {N : Nat} {x1 x2 x3 : Value} {y : Value} {w' : am_W} (hd : decode M.2.1 pc = .ok (.invokevirtual ix, 3)) (hq : pc + 3 = q) (hB : am_Bd M1 3) (hlink : Cond.methodLink M.1.cls ix M1.1 ∈ lw_tbl) (hin : Cond.instanceMethod M1.1 ∈ lw_tbl) (hsel : Cond.selects M1.1.cls M1.1 M1.1 ∈ lw_tbl) (hci : vwCl[ci]? = some (M1.1.cls, T, N)) (hrm : (st.map fun v => v.category).sum ≤ 8) (hlen : (lg_sl ([.ref a, x1, x2, x3] : List Value)).length ≤ M1.2.2.1) (hc : w[a]? = some (.inr (ci, fs))) (hdd : d1 + 1 ≤ d) (h : am_Wp none M1 d1 0 0 0 (lv_args 0 [.ref a, x1, x2, x3]) [] w (am_R (some y) w')) (k : am_Wp sc M d bc bs q ls (y :: st) w' F) : am_Wp sc M d bc bs pc ls (x3 :: x2 :: x1 :: .ref a :: st) w F :=
  wp_cVr (as := [x1, x2, x3]) (st := st) hd hq hB hlink hin hsel hci rfl rfl hrm hlen hc hdd h k
theorem wp_cV3v {a ix ci d1 : Nat} {fs : List Value} {T : u_T} {N : Nat} {x1 x2 x3 : Value} {w' : am_W} (hd : decode M.2.1 pc = .ok (.invokevirtual ix, 3)) (hq : pc + 3 = q) (hB : am_Bd M1 3) (hlink : Cond.methodLink M.1.cls ix M1.1 ∈ lw_tbl) (hin : Cond.instanceMethod M1.1 ∈ lw_tbl) (hsel : Cond.selects M1.1.cls M1.1 M1.1 ∈ lw_tbl) (hci : vwCl[ci]? = some (M1.1.cls, T, N)) (hrm : (st.map fun v => v.category).sum ≤ 8) (hlen : (lg_sl ([.ref a, x1, x2, x3] : List Value)).length ≤ M1.2.2.1) (hc : w[a]? = some (.inr (ci, fs))) (hdd : d1 + 1 ≤ d) (h : am_Wp none M1 d1 0 0 0 (lv_args 0 [.ref a, x1, x2, x3]) [] w (am_R (none) w')) (k : am_Wp sc M d bc bs q ls st w' F) : am_Wp sc M d bc bs pc ls (x3 :: x2 :: x1 :: .ref a :: st) w F :=
  wp_cVv (as := [x1, x2, x3]) (st := st) hd hq hB hlink hin hsel hci rfl rfl hrm hlen hc hdd h k
theorem wp_cV3g {a ix ci d1 : Nat} {fs : List Value} {T : u_T} {N : Nat} {x1 x2 x3 : Value} (hd : decode M.2.1 pc = .ok (.invokevirtual ix, 3)) (hq : pc + 3 = q) (hB : am_Bd M1 3) (hlink : Cond.methodLink M.1.cls ix M1.1 ∈ lw_tbl) (hin : Cond.instanceMethod M1.1 ∈ lw_tbl) (hsel : Cond.selects M1.1.cls M1.1 M1.1 ∈ lw_tbl) (hci : vwCl[ci]? = some (M1.1.cls, T, N)) (hrm : (st.map fun v => v.category).sum ≤ 8) (hlen : (lg_sl ([.ref a, x1, x2, x3] : List Value)).length ≤ M1.2.2.1) (hc : w[a]? = some (.inr (ci, fs))) (hdd : d1 + 1 ≤ d) (h : am_Wp none M1 d1 bc1 bs1 0 (lv_args 0 [.ref a, x1, x2, x3]) [] w F1) (k : ∀ v w1, F1 v w1 → am_Wp sc M d bc bs q ls (v.toList ++ st) w1 F) : am_Wp sc M d (bc + bc1) (bs + bs1) pc ls (x3 :: x2 :: x1 :: .ref a :: st) w F :=
  wp_callV (as := [x1, x2, x3]) (st := st) hd hq hB hlink hin hsel hci rfl rfl hrm hlen hc hdd h k
theorem wp_cV4r {a ix ci d1 : Nat} {fs : List Value} {T : u_T} {N : Nat} {x1 x2 x3 x4 : Value} {y : Value} {w' : am_W} (hd : decode M.2.1 pc = .ok (.invokevirtual ix, 3)) (hq : pc + 3 = q) (hB : am_Bd M1 4) (hlink : Cond.methodLink M.1.cls ix M1.1 ∈ lw_tbl) (hin : Cond.instanceMethod M1.1 ∈ lw_tbl) (hsel : Cond.selects M1.1.cls M1.1 M1.1 ∈ lw_tbl) (hci : vwCl[ci]? = some (M1.1.cls, T, N)) (hrm : (st.map fun v => v.category).sum ≤ 8) (hlen : (lg_sl ([.ref a, x1, x2, x3, x4] : List Value)).length ≤ M1.2.2.1) (hc : w[a]? = some (.inr (ci, fs))) (hdd : d1 + 1 ≤ d) (h : am_Wp none M1 d1 0 0 0 (lv_args 0 [.ref a, x1, x2, x3, x4]) [] w (am_R (some y) w')) (k : am_Wp sc M d bc bs q ls (y :: st) w' F) : am_Wp sc M d bc bs pc ls (x4 :: x3 :: x2 :: x1 :: .ref a :: st) w F :=
  wp_cVr (as := [x1, x2, x3, x4]) (st := st) hd hq hB hlink hin hsel hci rfl rfl hrm hlen hc hdd h k
theorem wp_cV4v {a ix ci d1 : Nat} {fs : List Value} {T : u_T} {N : Nat} {x1 x2 x3 x4 : Value} {w' : am_W} (hd : decode M.2.1 pc = .ok (.invokevirtual ix, 3)) (hq : pc + 3 = q) (hB : am_Bd M1 4) (hlink : Cond.methodLink M.1.cls ix M1.1 ∈ lw_tbl) (hin : Cond.instanceMethod M1.1 ∈ lw_tbl) (hsel : Cond.selects M1.1.cls M1.1 M1.1 ∈ lw_tbl) (hci : vwCl[ci]? = some (M1.1.cls, T, N)) (hrm : (st.map fun v => v.category).sum ≤ 8) (hlen : (lg_sl ([.ref a, x1, x2, x3, x4] : List Value)).length ≤ M1.2.2.1) (hc : w[a]? = some (.inr (ci, fs))) (hdd : d1 + 1 ≤ d) (h : am_Wp none M1 d1 0 0 0 (lv_args 0 [.ref a, x1, x2, x3, x4]) [] w (am_R (none) w')) (k : am_Wp sc M d bc bs q ls st w' F) : am_Wp sc M d bc bs pc ls (x4 :: x3 :: x2 :: x1 :: .ref a :: st) w F :=
  wp_cVv (as := [x1, x2, x3, x4]) (st := st) hd hq hB hlink hin hsel hci rfl rfl hrm hlen hc hdd h k
theorem wp_cV4g {a ix ci d1 : Nat} {fs : List Value} {T : u_T} {N : Nat} {x1 x2 x3 x4 : Value} (hd : decode M.2.1 pc = .ok (.invokevirtual ix, 3)) (hq : pc + 3 = q) (hB : am_Bd M1 4) (hlink : Cond.methodLink M.1.cls ix M1.1 ∈ lw_tbl) (hin : Cond.instanceMethod M1.1 ∈ lw_tbl) (hsel : Cond.selects M1.1.cls M1.1 M1.1 ∈ lw_tbl) (hci : vwCl[ci]? = some (M1.1.cls, T, N)) (hrm : (st.map fun v => v.category).sum ≤ 8) (hlen : (lg_sl ([.ref a, x1, x2, x3, x4] : List Value)).length ≤ M1.2.2.1) (hc : w[a]? = some (.inr (ci, fs))) (hdd : d1 + 1 ≤ d) (h : am_Wp none M1 d1 bc1 bs1 0 (lv_args 0 [.ref a, x1, x2, x3, x4]) [] w F1) (k : ∀ v w1, F1 v w1 → am_Wp sc M d bc bs q ls (v.toList ++ st) w1 F) : am_Wp sc M d (bc + bc1) (bs + bs1) pc ls (x4 :: x3 :: x2 :: x1 :: .ref a :: st) w F :=
  wp_callV (as := [x1, x2, x3, x4]) (st := st) hd hq hB hlink hin hsel hci rfl rfl hrm hlen hc hdd h k
theorem wp_cVN0r {a ix ci d1 : Nat} {host : String} {fs : List Value} {T : u_T} {N : Nat} {y : Value} {w' : am_W} (hd : decode M.2.1 pc = .ok (.invokevirtual ix, 3)) (hq : pc + 3 = q) (hB : am_Bd M1 0) (hlink : Cond.methodLinkNest M.1.cls ix M1.1 host ∈ lw_tbl) (hin : Cond.instanceMethod M1.1 ∈ lw_tbl) (hsel : Cond.selects M1.1.cls M1.1 M1.1 ∈ lw_tbl) (hci : vwCl[ci]? = some (M1.1.cls, T, N)) (hrm : (st.map fun v => v.category).sum ≤ 8) (hlen : (lg_sl ([.ref a] : List Value)).length ≤ M1.2.2.1) (hc : w[a]? = some (.inr (ci, fs))) (hdd : d1 + 1 ≤ d) (h : am_Wp none M1 d1 0 0 0 (lv_args 0 [.ref a]) [] w (am_R (some y) w')) (k : am_Wp sc M d bc bs q ls (y :: st) w' F) : am_Wp sc M d bc bs pc ls (.ref a :: st) w F :=
  wp_cVNr (as := []) (st := st) hd hq hB hlink hin hsel hci rfl rfl hrm hlen hc hdd h k
theorem wp_cVN0v {a ix ci d1 : Nat} {host : String} {fs : List Value} {T : u_T} {N : Nat} {w' : am_W} (hd : decode M.2.1 pc = .ok (.invokevirtual ix, 3)) (hq : pc + 3 = q) (hB : am_Bd M1 0) (hlink : Cond.methodLinkNest M.1.cls ix M1.1 host ∈ lw_tbl) (hin : Cond.instanceMethod M1.1 ∈ lw_tbl) (hsel : Cond.selects M1.1.cls M1.1 M1.1 ∈ lw_tbl) (hci : vwCl[ci]? = some (M1.1.cls, T, N)) (hrm : (st.map fun v => v.category).sum ≤ 8) (hlen : (lg_sl ([.ref a] : List Value)).length ≤ M1.2.2.1) (hc : w[a]? = some (.inr (ci, fs))) (hdd : d1 + 1 ≤ d) (h : am_Wp none M1 d1 0 0 0 (lv_args 0 [.ref a]) [] w (am_R (none) w')) (k : am_Wp sc M d bc bs q ls st w' F) : am_Wp sc M d bc bs pc ls (.ref a :: st) w F :=
  wp_cVNv (as := []) (st := st) hd hq hB hlink hin hsel hci rfl rfl hrm hlen hc hdd h k
theorem wp_cVN0g {a ix ci d1 : Nat} {host : String} {fs : List Value} {T : u_T} {N : Nat} (hd : decode M.2.1 pc = .ok (.invokevirtual ix, 3)) (hq : pc + 3 = q) (hB : am_Bd M1 0) (hlink : Cond.methodLinkNest M.1.cls ix M1.1 host ∈ lw_tbl) (hin : Cond.instanceMethod M1.1 ∈ lw_tbl) (hsel : Cond.selects M1.1.cls M1.1 M1.1 ∈ lw_tbl) (hci : vwCl[ci]? = some (M1.1.cls, T, N)) (hrm : (st.map fun v => v.category).sum ≤ 8) (hlen : (lg_sl ([.ref a] : List Value)).length ≤ M1.2.2.1) (hc : w[a]? = some (.inr (ci, fs))) (hdd : d1 + 1 ≤ d) (h : am_Wp none M1 d1 bc1 bs1 0 (lv_args 0 [.ref a]) [] w F1) (k : ∀ v w1, F1 v w1 → am_Wp sc M d bc bs q ls (v.toList ++ st) w1 F) : am_Wp sc M d (bc + bc1) (bs + bs1) pc ls (.ref a :: st) w F :=
  wp_callVN (as := []) (st := st) hd hq hB hlink hin hsel hci rfl rfl hrm hlen hc hdd h k
theorem wp_cVN1r {a ix ci d1 : Nat} {host : String} {fs : List Value} {T : u_T} {N : Nat} {x1 : Value} {y : Value} {w' : am_W} (hd : decode M.2.1 pc = .ok (.invokevirtual ix, 3)) (hq : pc + 3 = q) (hB : am_Bd M1 1) (hlink : Cond.methodLinkNest M.1.cls ix M1.1 host ∈ lw_tbl) (hin : Cond.instanceMethod M1.1 ∈ lw_tbl) (hsel : Cond.selects M1.1.cls M1.1 M1.1 ∈ lw_tbl) (hci : vwCl[ci]? = some (M1.1.cls, T, N)) (hrm : (st.map fun v => v.category).sum ≤ 8) (hlen : (lg_sl ([.ref a, x1] : List Value)).length ≤ M1.2.2.1) (hc : w[a]? = some (.inr (ci, fs))) (hdd : d1 + 1 ≤ d) (h : am_Wp none M1 d1 0 0 0 (lv_args 0 [.ref a, x1]) [] w (am_R (some y) w')) (k : am_Wp sc M d bc bs q ls (y :: st) w' F) : am_Wp sc M d bc bs pc ls (x1 :: .ref a :: st) w F :=
  wp_cVNr (as := [x1]) (st := st) hd hq hB hlink hin hsel hci rfl rfl hrm hlen hc hdd h k
theorem wp_cVN1v {a ix ci d1 : Nat} {host : String} {fs : List Value} {T : u_T} {N : Nat} {x1 : Value} {w' : am_W} (hd : decode M.2.1 pc = .ok (.invokevirtual ix, 3)) (hq : pc + 3 = q) (hB : am_Bd M1 1) (hlink : Cond.methodLinkNest M.1.cls ix M1.1 host ∈ lw_tbl) (hin : Cond.instanceMethod M1.1 ∈ lw_tbl) (hsel : Cond.selects M1.1.cls M1.1 M1.1 ∈ lw_tbl) (hci : vwCl[ci]? = some (M1.1.cls, T, N)) (hrm : (st.map fun v => v.category).sum ≤ 8) (hlen : (lg_sl ([.ref a, x1] : List Value)).length ≤ M1.2.2.1) (hc : w[a]? = some (.inr (ci, fs))) (hdd : d1 + 1 ≤ d) (h : am_Wp none M1 d1 0 0 0 (lv_args 0 [.ref a, x1]) [] w (am_R (none) w')) (k : am_Wp sc M d bc bs q ls st w' F) : am_Wp sc M d bc bs pc ls (x1 :: .ref a :: st) w F :=
  wp_cVNv (as := [x1]) (st := st) hd hq hB hlink hin hsel hci rfl rfl hrm hlen hc hdd h k
theorem wp_cVN1g {a ix ci d1 : Nat} {host : String} {fs : List Value} {T : u_T} {N : Nat} {x1 : Value} (hd : decode M.2.1 pc = .ok (.invokevirtual ix, 3)) (hq : pc + 3 = q) (hB : am_Bd M1 1) (hlink : Cond.methodLinkNest M.1.cls ix M1.1 host ∈ lw_tbl) (hin : Cond.instanceMethod M1.1 ∈ lw_tbl) (hsel : Cond.selects M1.1.cls M1.1 M1.1 ∈ lw_tbl) (hci : vwCl[ci]? = some (M1.1.cls, T, N)) (hrm : (st.map fun v => v.category).sum ≤ 8) (hlen : (lg_sl ([.ref a, x1] : List Value)).length ≤ M1.2.2.1) (hc : w[a]? = some (.inr (ci, fs))) (hdd : d1 + 1 ≤ d) (h : am_Wp none M1 d1 bc1 bs1 0 (lv_args 0 [.ref a, x1]) [] w F1) (k : ∀ v w1, F1 v w1 → am_Wp sc M d bc bs q ls (v.toList ++ st) w1 F) : am_Wp sc M d (bc + bc1) (bs + bs1) pc ls (x1 :: .ref a :: st) w F :=
  wp_callVN (as := [x1]) (st := st) hd hq hB hlink hin hsel hci rfl rfl hrm hlen hc hdd h k
theorem wp_cVN2r {a ix ci d1 : Nat} {host : String} {fs : List Value} {T : u_T} {N : Nat} {x1 x2 : Value} {y : Value} {w' : am_W} (hd : decode M.2.1 pc = .ok (.invokevirtual ix, 3)) (hq : pc + 3 = q) (hB : am_Bd M1 2) (hlink : Cond.methodLinkNest M.1.cls ix M1.1 host ∈ lw_tbl) (hin : Cond.instanceMethod M1.1 ∈ lw_tbl) (hsel : Cond.selects M1.1.cls M1.1 M1.1 ∈ lw_tbl) (hci : vwCl[ci]? = some (M1.1.cls, T, N)) (hrm : (st.map fun v => v.category).sum ≤ 8) (hlen : (lg_sl ([.ref a, x1, x2] : List Value)).length ≤ M1.2.2.1) (hc : w[a]? = some (.inr (ci, fs))) (hdd : d1 + 1 ≤ d) (h : am_Wp none M1 d1 0 0 0 (lv_args 0 [.ref a, x1, x2]) [] w (am_R (some y) w')) (k : am_Wp sc M d bc bs q ls (y :: st) w' F) : am_Wp sc M d bc bs pc ls (x2 :: x1 :: .ref a :: st) w F :=
  wp_cVNr (as := [x1, x2]) (st := st) hd hq hB hlink hin hsel hci rfl rfl hrm hlen hc hdd h k
theorem wp_cVN2v {a ix ci d1 : Nat} {host : String} {fs : List Value} {T : u_T} {N : Nat} {x1 x2 : Value} {w' : am_W} (hd : decode M.2.1 pc = .ok (.invokevirtual ix, 3)) (hq : pc + 3 = q) (hB : am_Bd M1 2) (hlink : Cond.methodLinkNest M.1.cls ix M1.1 host ∈ lw_tbl) (hin : Cond.instanceMethod M1.1 ∈ lw_tbl) (hsel : Cond.selects M1.1.cls M1.1 M1.1 ∈ lw_tbl) (hci : vwCl[ci]? = some (M1.1.cls, T, N)) (hrm : (st.map fun v => v.category).sum ≤ 8) (hlen : (lg_sl ([.ref a, x1, x2] : List Value)).length ≤ M1.2.2.1) (hc : w[a]? = some (.inr (ci, fs))) (hdd : d1 + 1 ≤ d) (h : am_Wp none M1 d1 0 0 0 (lv_args 0 [.ref a, x1, x2]) [] w (am_R (none) w')) (k : am_Wp sc M d bc bs q ls st w' F) : am_Wp sc M d bc bs pc ls (x2 :: x1 :: .ref a :: st) w F :=
  wp_cVNv (as := [x1, x2]) (st := st) hd hq hB hlink hin hsel hci rfl rfl hrm hlen hc hdd h k
theorem wp_cVN2g {a ix ci d1 : Nat} {host : String} {fs : List Value} {T : u_T} {N : Nat} {x1 x2 : Value} (hd : decode M.2.1 pc = .ok (.invokevirtual ix, 3)) (hq : pc + 3 = q) (hB : am_Bd M1 2) (hlink : Cond.methodLinkNest M.1.cls ix M1.1 host ∈ lw_tbl) (hin : Cond.instanceMethod M1.1 ∈ lw_tbl) (hsel : Cond.selects M1.1.cls M1.1 M1.1 ∈ lw_tbl) (hci : vwCl[ci]? = some (M1.1.cls, T, N)) (hrm : (st.map fun v => v.category).sum ≤ 8) (hlen : (lg_sl ([.ref a, x1, x2] : List Value)).length ≤ M1.2.2.1) (hc : w[a]? = some (.inr (ci, fs))) (hdd : d1 + 1 ≤ d) (h : am_Wp none M1 d1 bc1 bs1 0 (lv_args 0 [.ref a, x1, x2]) [] w F1) (k : ∀ v w1, F1 v w1 → am_Wp sc M d bc bs q ls (v.toList ++ st) w1 F) : am_Wp sc M d (bc + bc1) (bs + bs1) pc ls (x2 :: x1 :: .ref a :: st) w F :=
  wp_callVN (as := [x1, x2]) (st := st) hd hq hB hlink hin hsel hci rfl rfl hrm hlen hc hdd h k
theorem wp_cVN3r {a ix ci d1 : Nat} {host : String} {fs : List Value} {T : u_T} {N : Nat} {x1 x2 x3 : Value} {y : Value} {w' : am_W} (hd : decode M.2.1 pc = .ok (.invokevirtual ix, 3)) (hq : pc + 3 = q) (hB : am_Bd M1 3) (hlink : Cond.methodLinkNest M.1.cls ix M1.1 host ∈ lw_tbl) (hin : Cond.instanceMethod M1.1 ∈ lw_tbl) (hsel : Cond.selects M1.1.cls M1.1 M1.1 ∈ lw_tbl) (hci : vwCl[ci]? = some (M1.1.cls, T, N)) (hrm : (st.map fun v => v.category).sum ≤ 8) (hlen : (lg_sl ([.ref a, x1, x2, x3] : List Value)).length ≤ M1.2.2.1) (hc : w[a]? = some (.inr (ci, fs))) (hdd : d1 + 1 ≤ d) (h : am_Wp none M1 d1 0 0 0 (lv_args 0 [.ref a, x1, x2, x3]) [] w (am_R (some y) w')) (k : am_Wp sc M d bc bs q ls (y :: st) w' F) : am_Wp sc M d bc bs pc ls (x3 :: x2 :: x1 :: .ref a :: st) w F :=
  wp_cVNr (as := [x1, x2, x3]) (st := st) hd hq hB hlink hin hsel hci rfl rfl hrm hlen hc hdd h k
theorem wp_cVN3v {a ix ci d1 : Nat} {host : String} {fs : List Value} {T : u_T} {N : Nat} {x1 x2 x3 : Value} {w' : am_W} (hd : decode M.2.1 pc = .ok (.invokevirtual ix, 3)) (hq : pc + 3 = q) (hB : am_Bd M1 3) (hlink : Cond.methodLinkNest M.1.cls ix M1.1 host ∈ lw_tbl) (hin : Cond.instanceMethod M1.1 ∈ lw_tbl) (hsel : Cond.selects M1.1.cls M1.1 M1.1 ∈ lw_tbl) (hci : vwCl[ci]? = some (M1.1.cls, T, N)) (hrm : (st.map fun v => v.category).sum ≤ 8) (hlen : (lg_sl ([.ref a, x1, x2, x3] : List Value)).length ≤ M1.2.2.1) (hc : w[a]? = some (.inr (ci, fs))) (hdd : d1 + 1 ≤ d) (h : am_Wp none M1 d1 0 0 0 (lv_args 0 [.ref a, x1, x2, x3]) [] w (am_R (none) w')) (k : am_Wp sc M d bc bs q ls st w' F) : am_Wp sc M d bc bs pc ls (x3 :: x2 :: x1 :: .ref a :: st) w F :=
  wp_cVNv (as := [x1, x2, x3]) (st := st) hd hq hB hlink hin hsel hci rfl rfl hrm hlen hc hdd h k
theorem wp_cVN3g {a ix ci d1 : Nat} {host : String} {fs : List Value} {T : u_T} {N : Nat} {x1 x2 x3 : Value} (hd : decode M.2.1 pc = .ok (.invokevirtual ix, 3)) (hq : pc + 3 = q) (hB : am_Bd M1 3) (hlink : Cond.methodLinkNest M.1.cls ix M1.1 host ∈ lw_tbl) (hin : Cond.instanceMethod M1.1 ∈ lw_tbl) (hsel : Cond.selects M1.1.cls M1.1 M1.1 ∈ lw_tbl) (hci : vwCl[ci]? = some (M1.1.cls, T, N)) (hrm : (st.map fun v => v.category).sum ≤ 8) (hlen : (lg_sl ([.ref a, x1, x2, x3] : List Value)).length ≤ M1.2.2.1) (hc : w[a]? = some (.inr (ci, fs))) (hdd : d1 + 1 ≤ d) (h : am_Wp none M1 d1 bc1 bs1 0 (lv_args 0 [.ref a, x1, x2, x3]) [] w F1) (k : ∀ v w1, F1 v w1 → am_Wp sc M d bc bs q ls (v.toList ++ st) w1 F) : am_Wp sc M d (bc + bc1) (bs + bs1) pc ls (x3 :: x2 :: x1 :: .ref a :: st) w F :=
  wp_callVN (as := [x1, x2, x3]) (st := st) hd hq hB hlink hin hsel hci rfl rfl hrm hlen hc hdd h k
theorem wp_cVN4r {a ix ci d1 : Nat} {host : String} {fs : List Value} {T : u_T} {N : Nat} {x1 x2 x3 x4 : Value} {y : Value} {w' : am_W} (hd : decode M.2.1 pc = .ok (.invokevirtual ix, 3)) (hq : pc + 3 = q) (hB : am_Bd M1 4) (hlink : Cond.methodLinkNest M.1.cls ix M1.1 host ∈ lw_tbl) (hin : Cond.instanceMethod M1.1 ∈ lw_tbl) (hsel : Cond.selects M1.1.cls M1.1 M1.1 ∈ lw_tbl) (hci : vwCl[ci]? = some (M1.1.cls, T, N)) (hrm : (st.map fun v => v.category).sum ≤ 8) (hlen : (lg_sl ([.ref a, x1, x2, x3, x4] : List Value)).length ≤ M1.2.2.1) (hc : w[a]? = some (.inr (ci, fs))) (hdd : d1 + 1 ≤ d) (h : am_Wp none M1 d1 0 0 0 (lv_args 0 [.ref a, x1, x2, x3, x4]) [] w (am_R (some y) w')) (k : am_Wp sc M d bc bs q ls (y :: st) w' F) : am_Wp sc M d bc bs pc ls (x4 :: x3 :: x2 :: x1 :: .ref a :: st) w F :=
  wp_cVNr (as := [x1, x2, x3, x4]) (st := st) hd hq hB hlink hin hsel hci rfl rfl hrm hlen hc hdd h k
theorem wp_cVN4v {a ix ci d1 : Nat} {host : String} {fs : List Value} {T : u_T} {N : Nat} {x1 x2 x3 x4 : Value} {w' : am_W} (hd : decode M.2.1 pc = .ok (.invokevirtual ix, 3)) (hq : pc + 3 = q) (hB : am_Bd M1 4) (hlink : Cond.methodLinkNest M.1.cls ix M1.1 host ∈ lw_tbl) (hin : Cond.instanceMethod M1.1 ∈ lw_tbl) (hsel : Cond.selects M1.1.cls M1.1 M1.1 ∈ lw_tbl) (hci : vwCl[ci]? = some (M1.1.cls, T, N)) (hrm : (st.map fun v => v.category).sum ≤ 8) (hlen : (lg_sl ([.ref a, x1, x2, x3, x4] : List Value)).length ≤ M1.2.2.1) (hc : w[a]? = some (.inr (ci, fs))) (hdd : d1 + 1 ≤ d) (h : am_Wp none M1 d1 0 0 0 (lv_args 0 [.ref a, x1, x2, x3, x4]) [] w (am_R (none) w')) (k : am_Wp sc M d bc bs q ls st w' F) : am_Wp sc M d bc bs pc ls (x4 :: x3 :: x2 :: x1 :: .ref a :: st) w F :=
  wp_cVNv (as := [x1, x2, x3, x4]) (st := st) hd hq hB hlink hin hsel hci rfl rfl hrm hlen hc hdd h k
theorem wp_cVN4g {a ix ci d1 : Nat} {host : String} {fs : List Value} {T : u_T} {N : Nat} {x1 x2 x3 x4 : Value} (hd : decode M.2.1 pc = .ok (.invokevirtual ix, 3)) (hq : pc + 3 = q) (hB : am_Bd M1 4) (hlink : Cond.methodLinkNest M.1.cls ix M1.1 host ∈ lw_tbl) (hin : Cond.instanceMethod M1.1 ∈ lw_tbl) (hsel : Cond.selects M1.1.cls M1.1 M1.1 ∈ lw_tbl) (hci : vwCl[ci]? = some (M1.1.cls, T, N)) (hrm : (st.map fun v => v.category).sum ≤ 8) (hlen : (lg_sl ([.ref a, x1, x2, x3, x4] : List Value)).length ≤ M1.2.2.1) (hc : w[a]? = some (.inr (ci, fs))) (hdd : d1 + 1 ≤ d) (h : am_Wp none M1 d1 bc1 bs1 0 (lv_args 0 [.ref a, x1, x2, x3, x4]) [] w F1) (k : ∀ v w1, F1 v w1 → am_Wp sc M d bc bs q ls (v.toList ++ st) w1 F) : am_Wp sc M d (bc + bc1) (bs + bs1) pc ls (x4 :: x3 :: x2 :: x1 :: .ref a :: st) w F :=
  wp_callVN (as := [x1, x2, x3, x4]) (st := st) hd hq hB hlink hin hsel hci rfl rfl hrm hlen hc hdd h k
theorem wp_cS0r {ix d1 : Nat} {y : Value} {w' : am_W} (hd : decode M.2.1 pc = .ok (.invokestatic ix, 3)) (hq : pc + 3 = q) (hB : am_Bd M1 0) (hlink : Cond.methodLink M.1.cls ix M1.1 ∈ lw_tbl) (hsta : Cond.static M1.1 ∈ lw_tbl) (hrm : (st.map fun v => v.category).sum ≤ 8) (hlen : (lg_sl ([] : List Value)).length ≤ M1.2.2.1) (hdd : d1 + 1 ≤ d) (h : am_Wp none M1 d1 0 0 0 (lv_args 0 []) [] w (am_R (some y) w')) (k : am_Wp sc M d bc bs q ls (y :: st) w' F) : am_Wp sc M d bc bs pc ls (st) w F :=
  wp_cSr (as := []) (st := st) hd hq hB hlink hsta rfl rfl hrm hlen hdd h k
theorem wp_cS0v {ix d1 : Nat} {w' : am_W} (hd : decode M.2.1 pc = .ok (.invokestatic ix, 3)) (hq : pc + 3 = q) (hB : am_Bd M1 0) (hlink : Cond.methodLink M.1.cls ix M1.1 ∈ lw_tbl) (hsta : Cond.static M1.1 ∈ lw_tbl) (hrm : (st.map fun v => v.category).sum ≤ 8) (hlen : (lg_sl ([] : List Value)).length ≤ M1.2.2.1) (hdd : d1 + 1 ≤ d) (h : am_Wp none M1 d1 0 0 0 (lv_args 0 []) [] w (am_R (none) w')) (k : am_Wp sc M d bc bs q ls st w' F) : am_Wp sc M d bc bs pc ls (st) w F :=
  wp_cSv (as := []) (st := st) hd hq hB hlink hsta rfl rfl hrm hlen hdd h k
theorem wp_cS0g {ix d1 : Nat} (hd : decode M.2.1 pc = .ok (.invokestatic ix, 3)) (hq : pc + 3 = q) (hB : am_Bd M1 0) (hlink : Cond.methodLink M.1.cls ix M1.1 ∈ lw_tbl) (hsta : Cond.static M1.1 ∈ lw_tbl) (hrm : (st.map fun v => v.category).sum ≤ 8) (hlen : (lg_sl ([] : List Value)).length ≤ M1.2.2.1) (hdd : d1 + 1 ≤ d) (h : am_Wp none M1 d1 bc1 bs1 0 (lv_args 0 []) [] w F1) (k : ∀ v w1, F1 v w1 → am_Wp sc M d bc bs q ls (v.toList ++ st) w1 F) : am_Wp sc M d (bc + bc1) (bs + bs1) pc ls (st) w F :=
  wp_callS (as := []) (st := st) hd hq hB hlink hsta rfl rfl hrm hlen hdd h k
theorem wp_cS1r {ix d1 : Nat} {x1 : Value} {y : Value} {w' : am_W} (hd : decode M.2.1 pc = .ok (.invokestatic ix, 3)) (hq : pc + 3 = q) (hB : am_Bd M1 1) (hlink : Cond.methodLink M.1.cls ix M1.1 ∈ lw_tbl) (hsta : Cond.static M1.1 ∈ lw_tbl) (hrm : (st.map fun v => v.category).sum ≤ 8) (hlen : (lg_sl ([x1] : List Value)).length ≤ M1.2.2.1) (hdd : d1 + 1 ≤ d) (h : am_Wp none M1 d1 0 0 0 (lv_args 0 [x1]) [] w (am_R (some y) w')) (k : am_Wp sc M d bc bs q ls (y :: st) w' F) : am_Wp sc M d bc bs pc ls (x1 :: st) w F :=
  wp_cSr (as := [x1]) (st := st) hd hq hB hlink hsta rfl rfl hrm hlen hdd h k
theorem wp_cS1v {ix d1 : Nat} {x1 : Value} {w' : am_W} (hd : decode M.2.1 pc = .ok (.invokestatic ix, 3)) (hq : pc + 3 = q) (hB : am_Bd M1 1) (hlink : Cond.methodLink M.1.cls ix M1.1 ∈ lw_tbl) (hsta : Cond.static M1.1 ∈ lw_tbl) (hrm : (st.map fun v => v.category).sum ≤ 8) (hlen : (lg_sl ([x1] : List Value)).length ≤ M1.2.2.1) (hdd : d1 + 1 ≤ d) (h : am_Wp none M1 d1 0 0 0 (lv_args 0 [x1]) [] w (am_R (none) w')) (k : am_Wp sc M d bc bs q ls st w' F) : am_Wp sc M d bc bs pc ls (x1 :: st) w F :=
  wp_cSv (as := [x1]) (st := st) hd hq hB hlink hsta rfl rfl hrm hlen hdd h k
theorem wp_cS1g {ix d1 : Nat} {x1 : Value} (hd : decode M.2.1 pc = .ok (.invokestatic ix, 3)) (hq : pc + 3 = q) (hB : am_Bd M1 1) (hlink : Cond.methodLink M.1.cls ix M1.1 ∈ lw_tbl) (hsta : Cond.static M1.1 ∈ lw_tbl) (hrm : (st.map fun v => v.category).sum ≤ 8) (hlen : (lg_sl ([x1] : List Value)).length ≤ M1.2.2.1) (hdd : d1 + 1 ≤ d) (h : am_Wp none M1 d1 bc1 bs1 0 (lv_args 0 [x1]) [] w F1) (k : ∀ v w1, F1 v w1 → am_Wp sc M d bc bs q ls (v.toList ++ st) w1 F) : am_Wp sc M d (bc + bc1) (bs + bs1) pc ls (x1 :: st) w F :=
  wp_callS (as := [x1]) (st := st) hd hq hB hlink hsta rfl rfl hrm hlen hdd h k
theorem wp_cS2r {ix d1 : Nat} {x1 x2 : Value} {y : Value} {w' : am_W} (hd : decode M.2.1 pc = .ok (.invokestatic ix, 3)) (hq : pc + 3 = q) (hB : am_Bd M1 2) (hlink : Cond.methodLink M.1.cls ix M1.1 ∈ lw_tbl) (hsta : Cond.static M1.1 ∈ lw_tbl) (hrm : (st.map fun v => v.category).sum ≤ 8) (hlen : (lg_sl ([x1, x2] : List Value)).length ≤ M1.2.2.1) (hdd : d1 + 1 ≤ d) (h : am_Wp none M1 d1 0 0 0 (lv_args 0 [x1, x2]) [] w (am_R (some y) w')) (k : am_Wp sc M d bc bs q ls (y :: st) w' F) : am_Wp sc M d bc bs pc ls (x2 :: x1 :: st) w F :=
  wp_cSr (as := [x1, x2]) (st := st) hd hq hB hlink hsta rfl rfl hrm hlen hdd h k
theorem wp_cS2v {ix d1 : Nat} {x1 x2 : Value} {w' : am_W} (hd : decode M.2.1 pc = .ok (.invokestatic ix, 3)) (hq : pc + 3 = q) (hB : am_Bd M1 2) (hlink : Cond.methodLink M.1.cls ix M1.1 ∈ lw_tbl) (hsta : Cond.static M1.1 ∈ lw_tbl) (hrm : (st.map fun v => v.category).sum ≤ 8) (hlen : (lg_sl ([x1, x2] : List Value)).length ≤ M1.2.2.1) (hdd : d1 + 1 ≤ d) (h : am_Wp none M1 d1 0 0 0 (lv_args 0 [x1, x2]) [] w (am_R (none) w')) (k : am_Wp sc M d bc bs q ls st w' F) : am_Wp sc M d bc bs pc ls (x2 :: x1 :: st) w F :=
  wp_cSv (as := [x1, x2]) (st := st) hd hq hB hlink hsta rfl rfl hrm hlen hdd h k
theorem wp_cS2g {ix d1 : Nat} {x1 x2 : Value} (hd : decode M.2.1 pc = .ok (.invokestatic ix, 3)) (hq : pc + 3 = q) (hB : am_Bd M1 2) (hlink : Cond.methodLink M.1.cls ix M1.1 ∈ lw_tbl) (hsta : Cond.static M1.1 ∈ lw_tbl) (hrm : (st.map fun v => v.category).sum ≤ 8) (hlen : (lg_sl ([x1, x2] : List Value)).length ≤ M1.2.2.1) (hdd : d1 + 1 ≤ d) (h : am_Wp none M1 d1 bc1 bs1 0 (lv_args 0 [x1, x2]) [] w F1) (k : ∀ v w1, F1 v w1 → am_Wp sc M d bc bs q ls (v.toList ++ st) w1 F) : am_Wp sc M d (bc + bc1) (bs + bs1) pc ls (x2 :: x1 :: st) w F :=
  wp_callS (as := [x1, x2]) (st := st) hd hq hB hlink hsta rfl rfl hrm hlen hdd h k
theorem wp_cS3r {ix d1 : Nat} {x1 x2 x3 : Value} {y : Value} {w' : am_W} (hd : decode M.2.1 pc = .ok (.invokestatic ix, 3)) (hq : pc + 3 = q) (hB : am_Bd M1 3) (hlink : Cond.methodLink M.1.cls ix M1.1 ∈ lw_tbl) (hsta : Cond.static M1.1 ∈ lw_tbl) (hrm : (st.map fun v => v.category).sum ≤ 8) (hlen : (lg_sl ([x1, x2, x3] : List Value)).length ≤ M1.2.2.1) (hdd : d1 + 1 ≤ d) (h : am_Wp none M1 d1 0 0 0 (lv_args 0 [x1, x2, x3]) [] w (am_R (some y) w')) (k : am_Wp sc M d bc bs q ls (y :: st) w' F) : am_Wp sc M d bc bs pc ls (x3 :: x2 :: x1 :: st) w F :=
  wp_cSr (as := [x1, x2, x3]) (st := st) hd hq hB hlink hsta rfl rfl hrm hlen hdd h k
theorem wp_cS3v {ix d1 : Nat} {x1 x2 x3 : Value} {w' : am_W} (hd : decode M.2.1 pc = .ok (.invokestatic ix, 3)) (hq : pc + 3 = q) (hB : am_Bd M1 3) (hlink : Cond.methodLink M.1.cls ix M1.1 ∈ lw_tbl) (hsta : Cond.static M1.1 ∈ lw_tbl) (hrm : (st.map fun v => v.category).sum ≤ 8) (hlen : (lg_sl ([x1, x2, x3] : List Value)).length ≤ M1.2.2.1) (hdd : d1 + 1 ≤ d) (h : am_Wp none M1 d1 0 0 0 (lv_args 0 [x1, x2, x3]) [] w (am_R (none) w')) (k : am_Wp sc M d bc bs q ls st w' F) : am_Wp sc M d bc bs pc ls (x3 :: x2 :: x1 :: st) w F :=
  wp_cSv (as := [x1, x2, x3]) (st := st) hd hq hB hlink hsta rfl rfl hrm hlen hdd h k
theorem wp_cS3g {ix d1 : Nat} {x1 x2 x3 : Value} (hd : decode M.2.1 pc = .ok (.invokestatic ix, 3)) (hq : pc + 3 = q) (hB : am_Bd M1 3) (hlink : Cond.methodLink M.1.cls ix M1.1 ∈ lw_tbl) (hsta : Cond.static M1.1 ∈ lw_tbl) (hrm : (st.map fun v => v.category).sum ≤ 8) (hlen : (lg_sl ([x1, x2, x3] : List Value)).length ≤ M1.2.2.1) (hdd : d1 + 1 ≤ d) (h : am_Wp none M1 d1 bc1 bs1 0 (lv_args 0 [x1, x2, x3]) [] w F1) (k : ∀ v w1, F1 v w1 → am_Wp sc M d bc bs q ls (v.toList ++ st) w1 F) : am_Wp sc M d (bc + bc1) (bs + bs1) pc ls (x3 :: x2 :: x1 :: st) w F :=
  wp_callS (as := [x1, x2, x3]) (st := st) hd hq hB hlink hsta rfl rfl hrm hlen hdd h k
theorem wp_cS4r {ix d1 : Nat} {x1 x2 x3 x4 : Value} {y : Value} {w' : am_W} (hd : decode M.2.1 pc = .ok (.invokestatic ix, 3)) (hq : pc + 3 = q) (hB : am_Bd M1 4) (hlink : Cond.methodLink M.1.cls ix M1.1 ∈ lw_tbl) (hsta : Cond.static M1.1 ∈ lw_tbl) (hrm : (st.map fun v => v.category).sum ≤ 8) (hlen : (lg_sl ([x1, x2, x3, x4] : List Value)).length ≤ M1.2.2.1) (hdd : d1 + 1 ≤ d) (h : am_Wp none M1 d1 0 0 0 (lv_args 0 [x1, x2, x3, x4]) [] w (am_R (some y) w')) (k : am_Wp sc M d bc bs q ls (y :: st) w' F) : am_Wp sc M d bc bs pc ls (x4 :: x3 :: x2 :: x1 :: st) w F :=
  wp_cSr (as := [x1, x2, x3, x4]) (st := st) hd hq hB hlink hsta rfl rfl hrm hlen hdd h k
theorem wp_cS4v {ix d1 : Nat} {x1 x2 x3 x4 : Value} {w' : am_W} (hd : decode M.2.1 pc = .ok (.invokestatic ix, 3)) (hq : pc + 3 = q) (hB : am_Bd M1 4) (hlink : Cond.methodLink M.1.cls ix M1.1 ∈ lw_tbl) (hsta : Cond.static M1.1 ∈ lw_tbl) (hrm : (st.map fun v => v.category).sum ≤ 8) (hlen : (lg_sl ([x1, x2, x3, x4] : List Value)).length ≤ M1.2.2.1) (hdd : d1 + 1 ≤ d) (h : am_Wp none M1 d1 0 0 0 (lv_args 0 [x1, x2, x3, x4]) [] w (am_R (none) w')) (k : am_Wp sc M d bc bs q ls st w' F) : am_Wp sc M d bc bs pc ls (x4 :: x3 :: x2 :: x1 :: st) w F :=
  wp_cSv (as := [x1, x2, x3, x4]) (st := st) hd hq hB hlink hsta rfl rfl hrm hlen hdd h k
theorem wp_cS4g {ix d1 : Nat} {x1 x2 x3 x4 : Value} (hd : decode M.2.1 pc = .ok (.invokestatic ix, 3)) (hq : pc + 3 = q) (hB : am_Bd M1 4) (hlink : Cond.methodLink M.1.cls ix M1.1 ∈ lw_tbl) (hsta : Cond.static M1.1 ∈ lw_tbl) (hrm : (st.map fun v => v.category).sum ≤ 8) (hlen : (lg_sl ([x1, x2, x3, x4] : List Value)).length ≤ M1.2.2.1) (hdd : d1 + 1 ≤ d) (h : am_Wp none M1 d1 bc1 bs1 0 (lv_args 0 [x1, x2, x3, x4]) [] w F1) (k : ∀ v w1, F1 v w1 → am_Wp sc M d bc bs q ls (v.toList ++ st) w1 F) : am_Wp sc M d (bc + bc1) (bs + bs1) pc ls (x4 :: x3 :: x2 :: x1 :: st) w F :=
  wp_callS (as := [x1, x2, x3, x4]) (st := st) hd hq hB hlink hsta rfl rfl hrm hlen hdd h k
theorem wp_cSN0r {ix d1 : Nat} {host : String} {y : Value} {w' : am_W} (hd : decode M.2.1 pc = .ok (.invokestatic ix, 3)) (hq : pc + 3 = q) (hB : am_Bd M1 0) (hlink : Cond.methodLinkNest M.1.cls ix M1.1 host ∈ lw_tbl) (hsta : Cond.static M1.1 ∈ lw_tbl) (hrm : (st.map fun v => v.category).sum ≤ 8) (hlen : (lg_sl ([] : List Value)).length ≤ M1.2.2.1) (hdd : d1 + 1 ≤ d) (h : am_Wp none M1 d1 0 0 0 (lv_args 0 []) [] w (am_R (some y) w')) (k : am_Wp sc M d bc bs q ls (y :: st) w' F) : am_Wp sc M d bc bs pc ls (st) w F :=
  wp_cSNr (as := []) (st := st) hd hq hB hlink hsta rfl rfl hrm hlen hdd h k
theorem wp_cSN0v {ix d1 : Nat} {host : String} {w' : am_W} (hd : decode M.2.1 pc = .ok (.invokestatic ix, 3)) (hq : pc + 3 = q) (hB : am_Bd M1 0) (hlink : Cond.methodLinkNest M.1.cls ix M1.1 host ∈ lw_tbl) (hsta : Cond.static M1.1 ∈ lw_tbl) (hrm : (st.map fun v => v.category).sum ≤ 8) (hlen : (lg_sl ([] : List Value)).length ≤ M1.2.2.1) (hdd : d1 + 1 ≤ d) (h : am_Wp none M1 d1 0 0 0 (lv_args 0 []) [] w (am_R (none) w')) (k : am_Wp sc M d bc bs q ls st w' F) : am_Wp sc M d bc bs pc ls (st) w F :=
  wp_cSNv (as := []) (st := st) hd hq hB hlink hsta rfl rfl hrm hlen hdd h k
theorem wp_cSN0g {ix d1 : Nat} {host : String} (hd : decode M.2.1 pc = .ok (.invokestatic ix, 3)) (hq : pc + 3 = q) (hB : am_Bd M1 0) (hlink : Cond.methodLinkNest M.1.cls ix M1.1 host ∈ lw_tbl) (hsta : Cond.static M1.1 ∈ lw_tbl) (hrm : (st.map fun v => v.category).sum ≤ 8) (hlen : (lg_sl ([] : List Value)).length ≤ M1.2.2.1) (hdd : d1 + 1 ≤ d) (h : am_Wp none M1 d1 bc1 bs1 0 (lv_args 0 []) [] w F1) (k : ∀ v w1, F1 v w1 → am_Wp sc M d bc bs q ls (v.toList ++ st) w1 F) : am_Wp sc M d (bc + bc1) (bs + bs1) pc ls (st) w F :=
  wp_callSN (as := []) (st := st) hd hq hB hlink hsta rfl rfl hrm hlen hdd h k
theorem wp_cSN1r {ix d1 : Nat} {host : String} {x1 : Value} {y : Value} {w' : am_W} (hd : decode M.2.1 pc = .ok (.invokestatic ix, 3)) (hq : pc + 3 = q) (hB : am_Bd M1 1) (hlink : Cond.methodLinkNest M.1.cls ix M1.1 host ∈ lw_tbl) (hsta : Cond.static M1.1 ∈ lw_tbl) (hrm : (st.map fun v => v.category).sum ≤ 8) (hlen : (lg_sl ([x1] : List Value)).length ≤ M1.2.2.1) (hdd : d1 + 1 ≤ d) (h : am_Wp none M1 d1 0 0 0 (lv_args 0 [x1]) [] w (am_R (some y) w')) (k : am_Wp sc M d bc bs q ls (y :: st) w' F) : am_Wp sc M d bc bs pc ls (x1 :: st) w F :=
  wp_cSNr (as := [x1]) (st := st) hd hq hB hlink hsta rfl rfl hrm hlen hdd h k
theorem wp_cSN1v {ix d1 : Nat} {host : String} {x1 : Value} {w' : am_W} (hd : decode M.2.1 pc = .ok (.invokestatic ix, 3)) (hq : pc + 3 = q) (hB : am_Bd M1 1) (hlink : Cond.methodLinkNest M.1.cls ix M1.1 host ∈ lw_tbl) (hsta : Cond.static M1.1 ∈ lw_tbl) (hrm : (st.map fun v => v.category).sum ≤ 8) (hlen : (lg_sl ([x1] : List Value)).length ≤ M1.2.2.1) (hdd : d1 + 1 ≤ d) (h : am_Wp none M1 d1 0 0 0 (lv_args 0 [x1]) [] w (am_R (none) w')) (k : am_Wp sc M d bc bs q ls st w' F) : am_Wp sc M d bc bs pc ls (x1 :: st) w F :=
  wp_cSNv (as := [x1]) (st := st) hd hq hB hlink hsta rfl rfl hrm hlen hdd h k
theorem wp_cSN1g {ix d1 : Nat} {host : String} {x1 : Value} (hd : decode M.2.1 pc = .ok (.invokestatic ix, 3)) (hq : pc + 3 = q) (hB : am_Bd M1 1) (hlink : Cond.methodLinkNest M.1.cls ix M1.1 host ∈ lw_tbl) (hsta : Cond.static M1.1 ∈ lw_tbl) (hrm : (st.map fun v => v.category).sum ≤ 8) (hlen : (lg_sl ([x1] : List Value)).length ≤ M1.2.2.1) (hdd : d1 + 1 ≤ d) (h : am_Wp none M1 d1 bc1 bs1 0 (lv_args 0 [x1]) [] w F1) (k : ∀ v w1, F1 v w1 → am_Wp sc M d bc bs q ls (v.toList ++ st) w1 F) : am_Wp sc M d (bc + bc1) (bs + bs1) pc ls (x1 :: st) w F :=
  wp_callSN (as := [x1]) (st := st) hd hq hB hlink hsta rfl rfl hrm hlen hdd h k
theorem wp_cSN2r {ix d1 : Nat} {host : String} {x1 x2 : Value} {y : Value} {w' : am_W} (hd : decode M.2.1 pc = .ok (.invokestatic ix, 3)) (hq : pc + 3 = q) (hB : am_Bd M1 2) (hlink : Cond.methodLinkNest M.1.cls ix M1.1 host ∈ lw_tbl) (hsta : Cond.static M1.1 ∈ lw_tbl) (hrm : (st.map fun v => v.category).sum ≤ 8) (hlen : (lg_sl ([x1, x2] : List Value)).length ≤ M1.2.2.1) (hdd : d1 + 1 ≤ d) (h : am_Wp none M1 d1 0 0 0 (lv_args 0 [x1, x2]) [] w (am_R (some y) w')) (k : am_Wp sc M d bc bs q ls (y :: st) w' F) : am_Wp sc M d bc bs pc ls (x2 :: x1 :: st) w F :=
  wp_cSNr (as := [x1, x2]) (st := st) hd hq hB hlink hsta rfl rfl hrm hlen hdd h k
theorem wp_cSN2v {ix d1 : Nat} {host : String} {x1 x2 : Value} {w' : am_W} (hd : decode M.2.1 pc = .ok (.invokestatic ix, 3)) (hq : pc + 3 = q) (hB : am_Bd M1 2) (hlink : Cond.methodLinkNest M.1.cls ix M1.1 host ∈ lw_tbl) (hsta : Cond.static M1.1 ∈ lw_tbl) (hrm : (st.map fun v => v.category).sum ≤ 8) (hlen : (lg_sl ([x1, x2] : List Value)).length ≤ M1.2.2.1) (hdd : d1 + 1 ≤ d) (h : am_Wp none M1 d1 0 0 0 (lv_args 0 [x1, x2]) [] w (am_R (none) w')) (k : am_Wp sc M d bc bs q ls st w' F) : am_Wp sc M d bc bs pc ls (x2 :: x1 :: st) w F :=
  wp_cSNv (as := [x1, x2]) (st := st) hd hq hB hlink hsta rfl rfl hrm hlen hdd h k
theorem wp_cSN2g {ix d1 : Nat} {host : String} {x1 x2 : Value} (hd : decode M.2.1 pc = .ok (.invokestatic ix, 3)) (hq : pc + 3 = q) (hB : am_Bd M1 2) (hlink : Cond.methodLinkNest M.1.cls ix M1.1 host ∈ lw_tbl) (hsta : Cond.static M1.1 ∈ lw_tbl) (hrm : (st.map fun v => v.category).sum ≤ 8) (hlen : (lg_sl ([x1, x2] : List Value)).length ≤ M1.2.2.1) (hdd : d1 + 1 ≤ d) (h : am_Wp none M1 d1 bc1 bs1 0 (lv_args 0 [x1, x2]) [] w F1) (k : ∀ v w1, F1 v w1 → am_Wp sc M d bc bs q ls (v.toList ++ st) w1 F) : am_Wp sc M d (bc + bc1) (bs + bs1) pc ls (x2 :: x1 :: st) w F :=
  wp_callSN (as := [x1, x2]) (st := st) hd hq hB hlink hsta rfl rfl hrm hlen hdd h k
theorem wp_cSN3r {ix d1 : Nat} {host : String} {x1 x2 x3 : Value} {y : Value} {w' : am_W} (hd : decode M.2.1 pc = .ok (.invokestatic ix, 3)) (hq : pc + 3 = q) (hB : am_Bd M1 3) (hlink : Cond.methodLinkNest M.1.cls ix M1.1 host ∈ lw_tbl) (hsta : Cond.static M1.1 ∈ lw_tbl) (hrm : (st.map fun v => v.category).sum ≤ 8) (hlen : (lg_sl ([x1, x2, x3] : List Value)).length ≤ M1.2.2.1) (hdd : d1 + 1 ≤ d) (h : am_Wp none M1 d1 0 0 0 (lv_args 0 [x1, x2, x3]) [] w (am_R (some y) w')) (k : am_Wp sc M d bc bs q ls (y :: st) w' F) : am_Wp sc M d bc bs pc ls (x3 :: x2 :: x1 :: st) w F :=
  wp_cSNr (as := [x1, x2, x3]) (st := st) hd hq hB hlink hsta rfl rfl hrm hlen hdd h k
theorem wp_cSN3v {ix d1 : Nat} {host : String} {x1 x2 x3 : Value} {w' : am_W} (hd : decode M.2.1 pc = .ok (.invokestatic ix, 3)) (hq : pc + 3 = q) (hB : am_Bd M1 3) (hlink : Cond.methodLinkNest M.1.cls ix M1.1 host ∈ lw_tbl) (hsta : Cond.static M1.1 ∈ lw_tbl) (hrm : (st.map fun v => v.category).sum ≤ 8) (hlen : (lg_sl ([x1, x2, x3] : List Value)).length ≤ M1.2.2.1) (hdd : d1 + 1 ≤ d) (h : am_Wp none M1 d1 0 0 0 (lv_args 0 [x1, x2, x3]) [] w (am_R (none) w')) (k : am_Wp sc M d bc bs q ls st w' F) : am_Wp sc M d bc bs pc ls (x3 :: x2 :: x1 :: st) w F :=
  wp_cSNv (as := [x1, x2, x3]) (st := st) hd hq hB hlink hsta rfl rfl hrm hlen hdd h k
theorem wp_cSN3g {ix d1 : Nat} {host : String} {x1 x2 x3 : Value} (hd : decode M.2.1 pc = .ok (.invokestatic ix, 3)) (hq : pc + 3 = q) (hB : am_Bd M1 3) (hlink : Cond.methodLinkNest M.1.cls ix M1.1 host ∈ lw_tbl) (hsta : Cond.static M1.1 ∈ lw_tbl) (hrm : (st.map fun v => v.category).sum ≤ 8) (hlen : (lg_sl ([x1, x2, x3] : List Value)).length ≤ M1.2.2.1) (hdd : d1 + 1 ≤ d) (h : am_Wp none M1 d1 bc1 bs1 0 (lv_args 0 [x1, x2, x3]) [] w F1) (k : ∀ v w1, F1 v w1 → am_Wp sc M d bc bs q ls (v.toList ++ st) w1 F) : am_Wp sc M d (bc + bc1) (bs + bs1) pc ls (x3 :: x2 :: x1 :: st) w F :=
  wp_callSN (as := [x1, x2, x3]) (st := st) hd hq hB hlink hsta rfl rfl hrm hlen hdd h k
theorem wp_cSN4r {ix d1 : Nat} {host : String} {x1 x2 x3 x4 : Value} {y : Value} {w' : am_W} (hd : decode M.2.1 pc = .ok (.invokestatic ix, 3)) (hq : pc + 3 = q) (hB : am_Bd M1 4) (hlink : Cond.methodLinkNest M.1.cls ix M1.1 host ∈ lw_tbl) (hsta : Cond.static M1.1 ∈ lw_tbl) (hrm : (st.map fun v => v.category).sum ≤ 8) (hlen : (lg_sl ([x1, x2, x3, x4] : List Value)).length ≤ M1.2.2.1) (hdd : d1 + 1 ≤ d) (h : am_Wp none M1 d1 0 0 0 (lv_args 0 [x1, x2, x3, x4]) [] w (am_R (some y) w')) (k : am_Wp sc M d bc bs q ls (y :: st) w' F) : am_Wp sc M d bc bs pc ls (x4 :: x3 :: x2 :: x1 :: st) w F :=
  wp_cSNr (as := [x1, x2, x3, x4]) (st := st) hd hq hB hlink hsta rfl rfl hrm hlen hdd h k
theorem wp_cSN4v {ix d1 : Nat} {host : String} {x1 x2 x3 x4 : Value} {w' : am_W} (hd : decode M.2.1 pc = .ok (.invokestatic ix, 3)) (hq : pc + 3 = q) (hB : am_Bd M1 4) (hlink : Cond.methodLinkNest M.1.cls ix M1.1 host ∈ lw_tbl) (hsta : Cond.static M1.1 ∈ lw_tbl) (hrm : (st.map fun v => v.category).sum ≤ 8) (hlen : (lg_sl ([x1, x2, x3, x4] : List Value)).length ≤ M1.2.2.1) (hdd : d1 + 1 ≤ d) (h : am_Wp none M1 d1 0 0 0 (lv_args 0 [x1, x2, x3, x4]) [] w (am_R (none) w')) (k : am_Wp sc M d bc bs q ls st w' F) : am_Wp sc M d bc bs pc ls (x4 :: x3 :: x2 :: x1 :: st) w F :=
  wp_cSNv (as := [x1, x2, x3, x4]) (st := st) hd hq hB hlink hsta rfl rfl hrm hlen hdd h k
theorem wp_cSN4g {ix d1 : Nat} {host : String} {x1 x2 x3 x4 : Value} (hd : decode M.2.1 pc = .ok (.invokestatic ix, 3)) (hq : pc + 3 = q) (hB : am_Bd M1 4) (hlink : Cond.methodLinkNest M.1.cls ix M1.1 host ∈ lw_tbl) (hsta : Cond.static M1.1 ∈ lw_tbl) (hrm : (st.map fun v => v.category).sum ≤ 8) (hlen : (lg_sl ([x1, x2, x3, x4] : List Value)).length ≤ M1.2.2.1) (hdd : d1 + 1 ≤ d) (h : am_Wp none M1 d1 bc1 bs1 0 (lv_args 0 [x1, x2, x3, x4]) [] w F1) (k : ∀ v w1, F1 v w1 → am_Wp sc M d bc bs q ls (v.toList ++ st) w1 F) : am_Wp sc M d (bc + bc1) (bs + bs1) pc ls (x4 :: x3 :: x2 :: x1 :: st) w F :=
  wp_callSN (as := [x1, x2, x3, x4]) (st := st) hd hq hB hlink hsta rfl rfl hrm hlen hdd h k
theorem wp_cI0g {a ix d1 : Nat} (hd : decode M.2.1 pc = .ok (.invokespecial ix, 3)) (hq : pc + 3 = q) (hB : am_Bd M1 0) (hret : M1.2.2.2 = none) (hnm : M1.1.name = "<init>") (hlink : Cond.methodLink M.1.cls ix M1.1 ∈ lw_tbl) (hin : Cond.instanceMethod M1.1 ∈ lw_tbl) (hrm : (st.map fun v => v.category).sum ≤ 8) (hlen : (lg_sl ([.ref a] : List Value)).length ≤ M1.2.2.1) (hdd : d1 + 1 ≤ d) (h : am_Wp none M1 d1 bc1 bs1 0 (lv_args 0 [.ref a]) [] w F1) (k : ∀ v w1, F1 v w1 → am_Wp sc M d bc bs q ls (v.toList ++ st) w1 F) : am_Wp sc M d (bc + bc1) (bs + bs1) pc ls (.ref a :: st) w F :=
  wp_callI (as := []) (st := st) hd hq hB hret hnm hlink hin rfl rfl hrm hlen hdd h k
theorem wp_cIN0g {a ix d1 : Nat} {host : String} (hd : decode M.2.1 pc = .ok (.invokespecial ix, 3)) (hq : pc + 3 = q) (hB : am_Bd M1 0) (hret : M1.2.2.2 = none) (hnm : M1.1.name = "<init>") (hlink : Cond.methodLinkNest M.1.cls ix M1.1 host ∈ lw_tbl) (hin : Cond.instanceMethod M1.1 ∈ lw_tbl) (hrm : (st.map fun v => v.category).sum ≤ 8) (hlen : (lg_sl ([.ref a] : List Value)).length ≤ M1.2.2.1) (hdd : d1 + 1 ≤ d) (h : am_Wp none M1 d1 bc1 bs1 0 (lv_args 0 [.ref a]) [] w F1) (k : ∀ v w1, F1 v w1 → am_Wp sc M d bc bs q ls (v.toList ++ st) w1 F) : am_Wp sc M d (bc + bc1) (bs + bs1) pc ls (.ref a :: st) w F :=
  wp_callIN (as := []) (st := st) hd hq hB hret hnm hlink hin rfl rfl hrm hlen hdd h k
end Arity
end
section
/-! WHAT THE TABLES SAY of sorts and methods -/
theorem lay_X_0 : u_lay R_X T_X 0 ∈ lw_tbl := am_tb1 156 (by rfl)
theorem lay_X_1 : u_lay R_X T_X 1 ∈ lw_tbl := am_tb1 158 (by rfl)
theorem lay_X_2 : u_lay R_X T_X 2 ∈ lw_tbl := am_tb1 160 (by rfl)
theorem lay_X_3 : u_lay R_X T_X 3 ∈ lw_tbl := am_tb1 162 (by rfl)
theorem lay_X_4 : u_lay R_X T_X 4 ∈ lw_tbl := am_tb1 164 (by rfl)
theorem lay_X_5 : u_lay R_X T_X 5 ∈ lw_tbl := am_tb1 166 (by rfl)
theorem lay_X_6 : u_lay R_X T_X 6 ∈ lw_tbl := am_tb1 168 (by rfl)
theorem lay_X_7 : u_lay R_X T_X 7 ∈ lw_tbl := am_tb1 170 (by rfl)
theorem lay_X_8 : u_lay R_X T_X 8 ∈ lw_tbl := am_tb1 172 (by rfl)
theorem lay_X_9 : u_lay R_X T_X 9 ∈ lw_tbl := am_tb1 174 (by rfl)
theorem uw_X : ∀ w ∈ u_ws R_X T_X 10, w ∈ am_good := by
  intro w hw
  obtain ⟨k, hk, rfl⟩ := List.mem_map.mp hw
  have hk := List.mem_range.mp hk
  match k, hk with
  | 0, _ => exact am_in lay_X_0 rfl
  | 1, _ => exact am_in lay_X_1 rfl
  | 2, _ => exact am_in lay_X_2 rfl
  | 3, _ => exact am_in lay_X_3 rfl
  | 4, _ => exact am_in lay_X_4 rfl
  | 5, _ => exact am_in lay_X_5 rfl
  | 6, _ => exact am_in lay_X_6 rfl
  | 7, _ => exact am_in lay_X_7 rfl
  | 8, _ => exact am_in lay_X_8 rfl
  | 9, _ => exact am_in lay_X_9 rfl
  | k + 10, h => exact absurd h (by omega)
theorem ok_X : am_Ok 0 R_X T_X 10 ty_X := ⟨rfl, uw_X, tok_X, nm_X⟩
theorem lay_G_0 : u_lay R_G T_G 0 ∈ lw_tbl := am_tb1 39 (by rfl)
theorem lay_G_1 : u_lay R_G T_G 1 ∈ lw_tbl := am_tb1 41 (by rfl)
theorem lay_G_2 : u_lay R_G T_G 2 ∈ lw_tbl := am_tb1 43 (by rfl)
theorem lay_G_3 : u_lay R_G T_G 3 ∈ lw_tbl := am_tb1 45 (by rfl)
theorem uw_G : ∀ w ∈ u_ws R_G T_G 4, w ∈ am_good := by
  intro w hw
  obtain ⟨k, hk, rfl⟩ := List.mem_map.mp hw
  have hk := List.mem_range.mp hk
  match k, hk with
  | 0, _ => exact am_in lay_G_0 rfl
  | 1, _ => exact am_in lay_G_1 rfl
  | 2, _ => exact am_in lay_G_2 rfl
  | 3, _ => exact am_in lay_G_3 rfl
  | k + 4, h => exact absurd h (by omega)
theorem ok_G : am_Ok 1 R_G T_G 4 ty_G := ⟨rfl, uw_G, tok_G, nm_G⟩
theorem lay_K_0 : u_lay R_K T_K 0 ∈ lw_tbl := am_tb1 117 (by rfl)
theorem lay_K_1 : u_lay R_K T_K 1 ∈ lw_tbl := am_tb1 119 (by rfl)
theorem lay_K_2 : u_lay R_K T_K 2 ∈ lw_tbl := am_tb1 121 (by rfl)
theorem lay_K_3 : u_lay R_K T_K 3 ∈ lw_tbl := am_tb1 123 (by rfl)
theorem lay_K_4 : u_lay R_K T_K 4 ∈ lw_tbl := am_tb1 125 (by rfl)
theorem lay_K_5 : u_lay R_K T_K 5 ∈ lw_tbl := am_tb1 127 (by rfl)
theorem lay_K_6 : u_lay R_K T_K 6 ∈ lw_tbl := am_tb1 129 (by rfl)
theorem uw_K : ∀ w ∈ u_ws R_K T_K 7, w ∈ am_good := by
  intro w hw
  obtain ⟨k, hk, rfl⟩ := List.mem_map.mp hw
  have hk := List.mem_range.mp hk
  match k, hk with
  | 0, _ => exact am_in lay_K_0 rfl
  | 1, _ => exact am_in lay_K_1 rfl
  | 2, _ => exact am_in lay_K_2 rfl
  | 3, _ => exact am_in lay_K_3 rfl
  | 4, _ => exact am_in lay_K_4 rfl
  | 5, _ => exact am_in lay_K_5 rfl
  | 6, _ => exact am_in lay_K_6 rfl
  | k + 7, h => exact absurd h (by omega)
theorem ok_K : am_Ok 2 R_K T_K 7 ty_K := ⟨rfl, uw_K, tok_K, nm_K⟩
theorem lay_N_0 : u_lay R_N T_N 0 ∈ lw_tbl := am_tb1 140 (by rfl)
theorem lay_N_1 : u_lay R_N T_N 1 ∈ lw_tbl := am_tb1 142 (by rfl)
theorem uw_N : ∀ w ∈ u_ws R_N T_N 2, w ∈ am_good := by
  intro w hw
  obtain ⟨k, hk, rfl⟩ := List.mem_map.mp hw
  have hk := List.mem_range.mp hk
  match k, hk with
  | 0, _ => exact am_in lay_N_0 rfl
  | 1, _ => exact am_in lay_N_1 rfl
  | k + 2, h => exact absurd h (by omega)
theorem ok_N : am_Ok 3 R_N T_N 2 ty_N := ⟨rfl, uw_N, tok_N, nm_N⟩
theorem lay_T_0 : u_lay R_T T_T 0 ∈ lw_tbl := am_tb1 62 (by rfl)
theorem lay_T_1 : u_lay R_T T_T 1 ∈ lw_tbl := am_tb1 64 (by rfl)
theorem lay_T_2 : u_lay R_T T_T 2 ∈ lw_tbl := am_tb1 66 (by rfl)
theorem uw_T : ∀ w ∈ u_ws R_T T_T 3, w ∈ am_good := by
  intro w hw
  obtain ⟨k, hk, rfl⟩ := List.mem_map.mp hw
  have hk := List.mem_range.mp hk
  match k, hk with
  | 0, _ => exact am_in lay_T_0 rfl
  | 1, _ => exact am_in lay_T_1 rfl
  | 2, _ => exact am_in lay_T_2 rfl
  | k + 3, h => exact absurd h (by omega)
theorem ok_T : am_Ok 4 R_T T_T 3 ty_T := ⟨rfl, uw_T, tok_T, nm_T⟩
theorem lay_V_0 : u_lay R_V T_V 0 ∈ lw_tbl := am_tb1 83 (by rfl)
theorem lay_V_1 : u_lay R_V T_V 1 ∈ lw_tbl := am_tb1 85 (by rfl)
theorem lay_V_2 : u_lay R_V T_V 2 ∈ lw_tbl := am_tb1 87 (by rfl)
theorem lay_V_3 : u_lay R_V T_V 3 ∈ lw_tbl := am_tb1 89 (by rfl)
theorem lay_V_4 : u_lay R_V T_V 4 ∈ lw_tbl := am_tb1 91 (by rfl)
theorem lay_V_5 : u_lay R_V T_V 5 ∈ lw_tbl := am_tb1 93 (by rfl)
theorem lay_V_6 : u_lay R_V T_V 6 ∈ lw_tbl := am_tb1 95 (by rfl)
theorem lay_V_7 : u_lay R_V T_V 7 ∈ lw_tbl := am_tb1 97 (by rfl)
theorem uw_V : ∀ w ∈ u_ws R_V T_V 8, w ∈ am_good := by
  intro w hw
  obtain ⟨k, hk, rfl⟩ := List.mem_map.mp hw
  have hk := List.mem_range.mp hk
  match k, hk with
  | 0, _ => exact am_in lay_V_0 rfl
  | 1, _ => exact am_in lay_V_1 rfl
  | 2, _ => exact am_in lay_V_2 rfl
  | 3, _ => exact am_in lay_V_3 rfl
  | 4, _ => exact am_in lay_V_4 rfl
  | 5, _ => exact am_in lay_V_5 rfl
  | 6, _ => exact am_in lay_V_6 rfl
  | 7, _ => exact am_in lay_V_7 rfl
  | k + 8, h => exact absurd h (by omega)
theorem ok_V : am_Ok 5 R_V T_V 8 ty_V := ⟨rfl, uw_V, tok_V, nm_V⟩
theorem lay_Y_0 : u_lay R_Y T_Y 0 ∈ lw_tbl := am_tb3 14 (by rfl)
theorem lay_Y_1 : u_lay R_Y T_Y 1 ∈ lw_tbl := am_tb3 16 (by rfl)
theorem lay_Y_2 : u_lay R_Y T_Y 2 ∈ lw_tbl := am_tb3 18 (by rfl)
theorem lay_Y_3 : u_lay R_Y T_Y 3 ∈ lw_tbl := am_tb3 20 (by rfl)
theorem lay_Y_4 : u_lay R_Y T_Y 4 ∈ lw_tbl := am_tb3 22 (by rfl)
theorem lay_Y_5 : u_lay R_Y T_Y 5 ∈ lw_tbl := am_tb3 24 (by rfl)
theorem lay_Y_6 : u_lay R_Y T_Y 6 ∈ lw_tbl := am_tb3 26 (by rfl)
theorem lay_Y_7 : u_lay R_Y T_Y 7 ∈ lw_tbl := am_tb3 28 (by rfl)
theorem lay_Y_8 : u_lay R_Y T_Y 8 ∈ lw_tbl := am_tb3 30 (by rfl)
theorem lay_Y_9 : u_lay R_Y T_Y 9 ∈ lw_tbl := am_tb3 32 (by rfl)
theorem lay_Y_10 : u_lay R_Y T_Y 10 ∈ lw_tbl := am_tb3 34 (by rfl)
theorem lay_Y_11 : u_lay R_Y T_Y 11 ∈ lw_tbl := am_tb3 36 (by rfl)
theorem lay_Y_12 : u_lay R_Y T_Y 12 ∈ lw_tbl := am_tb3 38 (by rfl)
theorem lay_Y_13 : u_lay R_Y T_Y 13 ∈ lw_tbl := am_tb3 40 (by rfl)
theorem lay_Y_14 : u_lay R_Y T_Y 14 ∈ lw_tbl := am_tb3 42 (by rfl)
theorem lay_Y_15 : u_lay R_Y T_Y 15 ∈ lw_tbl := am_tb3 44 (by rfl)
theorem lay_Y_16 : u_lay R_Y T_Y 16 ∈ lw_tbl := am_tb3 46 (by rfl)
theorem lay_Y_17 : u_lay R_Y T_Y 17 ∈ lw_tbl := am_tb3 48 (by rfl)
theorem lay_Y_18 : u_lay R_Y T_Y 18 ∈ lw_tbl := am_tb3 50 (by rfl)
theorem lay_Y_19 : u_lay R_Y T_Y 19 ∈ lw_tbl := am_tb3 52 (by rfl)
theorem lay_Y_20 : u_lay R_Y T_Y 20 ∈ lw_tbl := am_tb3 54 (by rfl)
theorem lay_Y_21 : u_lay R_Y T_Y 21 ∈ lw_tbl := am_tb3 56 (by rfl)
theorem lay_Y_22 : u_lay R_Y T_Y 22 ∈ lw_tbl := am_tb3 58 (by rfl)
theorem uw_Y : ∀ w ∈ u_ws R_Y T_Y 23, w ∈ am_good := by
  intro w hw
  obtain ⟨k, hk, rfl⟩ := List.mem_map.mp hw
  have hk := List.mem_range.mp hk
  match k, hk with
  | 0, _ => exact am_in lay_Y_0 rfl
  | 1, _ => exact am_in lay_Y_1 rfl
  | 2, _ => exact am_in lay_Y_2 rfl
  | 3, _ => exact am_in lay_Y_3 rfl
  | 4, _ => exact am_in lay_Y_4 rfl
  | 5, _ => exact am_in lay_Y_5 rfl
  | 6, _ => exact am_in lay_Y_6 rfl
  | 7, _ => exact am_in lay_Y_7 rfl
  | 8, _ => exact am_in lay_Y_8 rfl
  | 9, _ => exact am_in lay_Y_9 rfl
  | 10, _ => exact am_in lay_Y_10 rfl
  | 11, _ => exact am_in lay_Y_11 rfl
  | 12, _ => exact am_in lay_Y_12 rfl
  | 13, _ => exact am_in lay_Y_13 rfl
  | 14, _ => exact am_in lay_Y_14 rfl
  | 15, _ => exact am_in lay_Y_15 rfl
  | 16, _ => exact am_in lay_Y_16 rfl
  | 17, _ => exact am_in lay_Y_17 rfl
  | 18, _ => exact am_in lay_Y_18 rfl
  | 19, _ => exact am_in lay_Y_19 rfl
  | 20, _ => exact am_in lay_Y_20 rfl
  | 21, _ => exact am_in lay_Y_21 rfl
  | 22, _ => exact am_in lay_Y_22 rfl
  | k + 23, h => exact absurd h (by omega)
theorem ok_Y : am_Ok 6 R_Y T_Y 23 ty_Y := ⟨rfl, uw_Y, tok_Y, nm_Y⟩
theorem bd_X_init : am_Bd m_X_init 0 := ⟨by decide +kernel, co_X_init, ini_X, ⟨by decide +kernel, by decide +kernel, by decide +kernel⟩, by decide⟩
theorem bd_G_init : am_Bd m_G_init 0 := ⟨by decide +kernel, co_G_init, ini_G, ⟨by decide +kernel, by decide +kernel, by decide +kernel⟩, by decide⟩
theorem bd_T_init : am_Bd m_T_init 0 := ⟨by decide +kernel, co_T_init, ini_T, ⟨by decide +kernel, by decide +kernel, by decide +kernel⟩, by decide⟩
theorem bd_V_init : am_Bd m_V_init 0 := ⟨by decide +kernel, co_V_init, ini_V, ⟨by decide +kernel, by decide +kernel, by decide +kernel⟩, by decide⟩
theorem bd_K_init : am_Bd m_K_init 0 := ⟨by decide +kernel, co_K_init, ini_K, ⟨by decide +kernel, by decide +kernel, by decide +kernel⟩, by decide⟩
theorem bd_N_init : am_Bd m_N_init 0 := ⟨by decide +kernel, co_N_init, ini_N, ⟨by decide +kernel, by decide +kernel, by decide +kernel⟩, by decide⟩
theorem bd_X_clear : am_Bd m_X_clear 0 := ⟨by decide +kernel, co_X_clear, ini_X, ⟨by decide +kernel, by decide +kernel, by decide +kernel⟩, by decide⟩
theorem bd_G_empty : am_Bd m_G_empty 0 := ⟨by decide +kernel, co_G_empty, ini_G, ⟨by decide +kernel, by decide +kernel, by decide +kernel⟩, by decide⟩
theorem bd_A_fillI : am_Bd m_A_fillI 2 := ⟨by decide +kernel, co_A_fillI, ini_A, ⟨by decide +kernel, by decide +kernel, by decide +kernel⟩, by decide⟩
theorem bd_T_releaseAll : am_Bd m_T_releaseAll 0 := ⟨by decide +kernel, co_T_releaseAll, ini_T, ⟨by decide +kernel, by decide +kernel, by decide +kernel⟩, by decide⟩
theorem bd_X_place : am_Bd m_X_place 0 := ⟨by decide +kernel, co_X_place, ini_X, ⟨by decide +kernel, by decide +kernel, by decide +kernel⟩, by decide⟩
theorem bd_T_startRows : am_Bd m_T_startRows 1 := ⟨by decide +kernel, co_T_startRows, ini_T, ⟨by decide +kernel, by decide +kernel, by decide +kernel⟩, by decide⟩
theorem bd_X_arc : am_Bd m_X_arc 2 := ⟨by decide +kernel, co_X_arc, ini_X, ⟨by decide +kernel, by decide +kernel, by decide +kernel⟩, by decide⟩
theorem bd_X_isPair : am_Bd m_X_isPair 2 := ⟨by decide +kernel, co_X_isPair, ini_X, ⟨by decide +kernel, by decide +kernel, by decide +kernel⟩, by decide⟩
theorem bd_X_isPlace : am_Bd m_X_isPlace 1 := ⟨by decide +kernel, co_X_isPlace, ini_X, ⟨by decide +kernel, by decide +kernel, by decide +kernel⟩, by decide⟩
theorem bd_G_neighbours : am_Bd m_G_neighbours 1 := ⟨by decide +kernel, co_G_neighbours, ini_G, ⟨by decide +kernel, by decide +kernel, by decide +kernel⟩, by decide⟩
theorem bd_X_has : am_Bd m_X_has 2 := ⟨by decide +kernel, co_X_has, ini_X, ⟨by decide +kernel, by decide +kernel, by decide +kernel⟩, by decide⟩
theorem bd_X_bit : am_Bd m_X_bit 1 := ⟨by decide +kernel, co_X_bit, ini_X, ⟨by decide +kernel, by decide +kernel, by decide +kernel⟩, by decide⟩
theorem bd_X_closure : am_Bd m_X_closure 2 := ⟨by decide +kernel, co_X_closure, ini_X, ⟨by decide +kernel, by decide +kernel, by decide +kernel⟩, by decide⟩
theorem bd_X_union : am_Bd m_X_union 2 := ⟨by decide +kernel, co_X_union, ini_X, ⟨by decide +kernel, by decide +kernel, by decide +kernel⟩, by decide⟩
theorem bd_G_join : am_Bd m_G_join 2 := ⟨by decide +kernel, co_G_join, ini_G, ⟨by decide +kernel, by decide +kernel, by decide +kernel⟩, by decide⟩
theorem bd_X_cut : am_Bd m_X_cut 2 := ⟨by decide +kernel, co_X_cut, ini_X, ⟨by decide +kernel, by decide +kernel, by decide +kernel⟩, by decide⟩
theorem bd_G_part : am_Bd m_G_part 2 := ⟨by decide +kernel, co_G_part, ini_G, ⟨by decide +kernel, by decide +kernel, by decide +kernel⟩, by decide⟩
theorem bd_X_odds : am_Bd m_X_odds 3 := ⟨by decide +kernel, co_X_odds, ini_X, ⟨by decide +kernel, by decide +kernel, by decide +kernel⟩, by decide⟩
theorem bd_X_isRow : am_Bd m_X_isRow 2 := ⟨by decide +kernel, co_X_isRow, ini_X, ⟨by decide +kernel, by decide +kernel, by decide +kernel⟩, by decide⟩
theorem bd_G_rows : am_Bd m_G_rows 1 := ⟨by decide +kernel, co_G_rows, ini_G, ⟨by decide +kernel, by decide +kernel, by decide +kernel⟩, by decide⟩
theorem bd_I_bitCount : am_Bd m_I_bitCount 1 := ⟨by decide +kernel, co_I_bitCount, ini_I, ⟨by decide +kernel, by decide +kernel, by decide +kernel⟩, by decide⟩
theorem bd_X_hold : am_Bd m_X_hold 2 := ⟨by decide +kernel, co_X_hold, ini_X, ⟨by decide +kernel, by decide +kernel, by decide +kernel⟩, by decide⟩
theorem bd_T_heldAt : am_Bd m_T_heldAt 1 := ⟨by decide +kernel, co_T_heldAt, ini_T, ⟨by decide +kernel, by decide +kernel, by decide +kernel⟩, by decide⟩
theorem bd_T_setHeld : am_Bd m_T_setHeld 2 := ⟨by decide +kernel, co_T_setHeld, ini_T, ⟨by decide +kernel, by decide +kernel, by decide +kernel⟩, by decide⟩
theorem bd_X_told : am_Bd m_X_told 2 := ⟨by decide +kernel, co_X_told, ini_X, ⟨by decide +kernel, by decide +kernel, by decide +kernel⟩, by decide⟩
theorem bd_X_of : am_Bd m_X_of 2 := ⟨by decide +kernel, co_X_of, ini_X, ⟨by decide +kernel, by decide +kernel, by decide +kernel⟩, by decide⟩
theorem bd_V_lookAt : am_Bd m_V_lookAt 3 := ⟨by decide +kernel, co_V_lookAt, ini_V, ⟨by decide +kernel, by decide +kernel, by decide +kernel⟩, by decide⟩
theorem bd_V_below : am_Bd m_V_below 1 := ⟨by decide +kernel, co_V_below, ini_V, ⟨by decide +kernel, by decide +kernel, by decide +kernel⟩, by decide⟩
theorem bd_X_separated : am_Bd m_X_separated 3 := ⟨by decide +kernel, co_X_separated, ini_X, ⟨by decide +kernel, by decide +kernel, by decide +kernel⟩, by decide⟩
theorem bd_X_isQuestion : am_Bd m_X_isQuestion 3 := ⟨by decide +kernel, co_X_isQuestion, ini_X, ⟨by decide +kernel, by decide +kernel, by decide +kernel⟩, by decide⟩
theorem bd_X_isSet : am_Bd m_X_isSet 1 := ⟨by decide +kernel, co_X_isSet, ini_X, ⟨by decide +kernel, by decide +kernel, by decide +kernel⟩, by decide⟩
theorem bd_G_everyPlace : am_Bd m_G_everyPlace 0 := ⟨by decide +kernel, co_G_everyPlace, ini_G, ⟨by decide +kernel, by decide +kernel, by decide +kernel⟩, by decide⟩
theorem bd_V_shortest : am_Bd m_V_shortest 3 := ⟨by decide +kernel, co_V_shortest, ini_V, ⟨by decide +kernel, by decide +kernel, by decide +kernel⟩, by decide⟩
theorem bd_V_start : am_Bd m_V_start 2 := ⟨by decide +kernel, co_V_start, ini_V, ⟨by decide +kernel, by decide +kernel, by decide +kernel⟩, by decide⟩
theorem bd_V_step : am_Bd m_V_step 0 := ⟨by decide +kernel, co_V_step, ini_V, ⟨by decide +kernel, by decide +kernel, by decide +kernel⟩, by decide⟩
theorem bd_X_answer : am_Bd m_X_answer 1 := ⟨by decide +kernel, co_X_answer, ini_X, ⟨by decide +kernel, by decide +kernel, by decide +kernel⟩, by decide⟩
theorem bd_X_walk : am_Bd m_X_walk 3 := ⟨by decide +kernel, co_X_walk, ini_X, ⟨by decide +kernel, by decide +kernel, by decide +kernel⟩, by decide⟩
theorem bd_X_weight : am_Bd m_X_weight 2 := ⟨by decide +kernel, co_X_weight, ini_X, ⟨by decide +kernel, by decide +kernel, by decide +kernel⟩, by decide⟩
theorem bd_T_product : am_Bd m_T_product 2 := ⟨by decide +kernel, co_T_product, ini_T, ⟨by decide +kernel, by decide +kernel, by decide +kernel⟩, by decide⟩
theorem bd_T_factor : am_Bd m_T_factor 3 := ⟨by decide +kernel, co_T_factor, ini_T, ⟨by decide +kernel, by decide +kernel, by decide +kernel⟩, by decide⟩
theorem bd_T_rowIn : am_Bd m_T_rowIn 2 := ⟨by decide +kernel, co_T_rowIn, ini_T, ⟨by decide +kernel, by decide +kernel, by decide +kernel⟩, by decide⟩
theorem bd_X_independent : am_Bd m_X_independent 3 := ⟨by decide +kernel, co_X_independent, ini_X, ⟨by decide +kernel, by decide +kernel, by decide +kernel⟩, by decide⟩
theorem bd_X_leastDifference : am_Bd m_X_leastDifference 3 := ⟨by decide +kernel, co_X_leastDifference, ini_X, ⟨by decide +kernel, by decide +kernel, by decide +kernel⟩, by decide⟩
theorem bd_N_start : am_Bd m_N_start 1 := ⟨by decide +kernel, co_N_start, ini_N, ⟨by decide +kernel, by decide +kernel, by decide +kernel⟩, by decide⟩
theorem bd_A_fillJ : am_Bd m_A_fillJ 2 := ⟨by decide +kernel, co_A_fillJ, ini_A, ⟨by decide +kernel, by decide +kernel, by decide +kernel⟩, by decide⟩
theorem bd_N_add : am_Bd m_N_add 2 := ⟨by decide +kernel, co_N_add, ini_N, ⟨by decide +kernel, by decide +kernel, by decide +kernel⟩, by decide⟩
theorem bd_N_sum : am_Bd m_N_sum 1 := ⟨by decide +kernel, co_N_sum, ini_N, ⟨by decide +kernel, by decide +kernel, by decide +kernel⟩, by decide⟩
theorem bd_X_differ : am_Bd m_X_differ 3 := ⟨by decide +kernel, co_X_differ, ini_X, ⟨by decide +kernel, by decide +kernel, by decide +kernel⟩, by decide⟩
theorem bd_X_blanket : am_Bd m_X_blanket 1 := ⟨by decide +kernel, co_X_blanket, ini_X, ⟨by decide +kernel, by decide +kernel, by decide +kernel⟩, by decide⟩
theorem bd_X_fewest : am_Bd m_X_fewest 3 := ⟨by decide +kernel, co_X_fewest, ini_X, ⟨by decide +kernel, by decide +kernel, by decide +kernel⟩, by decide⟩
theorem bd_V_reached : am_Bd m_V_reached 2 := ⟨by decide +kernel, co_V_reached, ini_V, ⟨by decide +kernel, by decide +kernel, by decide +kernel⟩, by decide⟩
theorem bd_X_least : am_Bd m_X_least 2 := ⟨by decide +kernel, co_X_least, ini_X, ⟨by decide +kernel, by decide +kernel, by decide +kernel⟩, by decide⟩
theorem bd_X_enough : am_Bd m_X_enough 3 := ⟨by decide +kernel, co_X_enough, ini_X, ⟨by decide +kernel, by decide +kernel, by decide +kernel⟩, by decide⟩
theorem bd_X_keep : am_Bd m_X_keep 0 := ⟨by decide +kernel, co_X_keep, ini_X, ⟨by decide +kernel, by decide +kernel, by decide +kernel⟩, by decide⟩
theorem bd_G_copy : am_Bd m_G_copy 1 := ⟨by decide +kernel, co_G_copy, ini_G, ⟨by decide +kernel, by decide +kernel, by decide +kernel⟩, by decide⟩
theorem bd_X_alike : am_Bd m_X_alike 0 := ⟨by decide +kernel, co_X_alike, ini_X, ⟨by decide +kernel, by decide +kernel, by decide +kernel⟩, by decide⟩
theorem bd_G_tellsTheSameAs : am_Bd m_G_tellsTheSameAs 1 := ⟨by decide +kernel, co_G_tellsTheSameAs, ini_G, ⟨by decide +kernel, by decide +kernel, by decide +kernel⟩, by decide⟩
theorem bd_G_strangers : am_Bd m_G_strangers 2 := ⟨by decide +kernel, co_G_strangers, ini_G, ⟨by decide +kernel, by decide +kernel, by decide +kernel⟩, by decide⟩
theorem bd_X_settled : am_Bd m_X_settled 2 := ⟨by decide +kernel, co_X_settled, ini_X, ⟨by decide +kernel, by decide +kernel, by decide +kernel⟩, by decide⟩
theorem bd_K_explore : am_Bd m_K_explore 1 := ⟨by decide +kernel, co_K_explore, ini_K, ⟨by decide +kernel, by decide +kernel, by decide +kernel⟩, by decide⟩
theorem bd_K_listArcs : am_Bd m_K_listArcs 0 := ⟨by decide +kernel, co_K_listArcs, ini_K, ⟨by decide +kernel, by decide +kernel, by decide +kernel⟩, by decide⟩
theorem bd_K_direct : am_Bd m_K_direct 2 := ⟨by decide +kernel, co_K_direct, ini_K, ⟨by decide +kernel, by decide +kernel, by decide +kernel⟩, by decide⟩
theorem bd_K_directOne : am_Bd m_K_directOne 4 := ⟨by decide +kernel, co_K_directOne, ini_K, ⟨by decide +kernel, by decide +kernel, by decide +kernel⟩, by decide⟩
theorem bd_K_meetsAsFirst : am_Bd m_K_meetsAsFirst 2 := ⟨by decide +kernel, co_K_meetsAsFirst, ini_K, ⟨by decide +kernel, by decide +kernel, by decide +kernel⟩, by decide⟩
theorem bd_K_isTurned : am_Bd m_K_isTurned 2 := ⟨by decide +kernel, co_K_isTurned, ini_K, ⟨by decide +kernel, by decide +kernel, by decide +kernel⟩, by decide⟩
theorem bd_X_family : am_Bd m_X_family 0 := ⟨by decide +kernel, co_X_family, ini_X, ⟨by decide +kernel, by decide +kernel, by decide +kernel⟩, by decide⟩
theorem bd_X_count : am_Bd m_X_count 1 := ⟨by decide +kernel, co_X_count, ini_X, ⟨by decide +kernel, by decide +kernel, by decide +kernel⟩, by decide⟩
theorem bd_Y_init : am_Bd m_Y_init 0 := ⟨by decide +kernel, co_Y_init, ini_Y, ⟨by decide +kernel, by decide +kernel, by decide +kernel⟩, by decide⟩
theorem bd_Y_begin : am_Bd m_Y_begin 0 := ⟨by decide +kernel, co_Y_begin, ini_Y, ⟨by decide +kernel, by decide +kernel, by decide +kernel⟩, by decide⟩
theorem bd_Y_clear : am_Bd m_Y_clear 0 := ⟨by decide +kernel, co_Y_clear, ini_Y, ⟨by decide +kernel, by decide +kernel, by decide +kernel⟩, by decide⟩
theorem bd_Y_place : am_Bd m_Y_place 0 := ⟨by decide +kernel, co_Y_place, ini_Y, ⟨by decide +kernel, by decide +kernel, by decide +kernel⟩, by decide⟩
theorem bd_Y_evenOdds : am_Bd m_Y_evenOdds 1 := ⟨by decide +kernel, co_Y_evenOdds, ini_Y, ⟨by decide +kernel, by decide +kernel, by decide +kernel⟩, by decide⟩
theorem bd_Y_arc : am_Bd m_Y_arc 2 := ⟨by decide +kernel, co_Y_arc, ini_Y, ⟨by decide +kernel, by decide +kernel, by decide +kernel⟩, by decide⟩
theorem bd_Y_isPlace : am_Bd m_Y_isPlace 1 := ⟨by decide +kernel, co_Y_isPlace, ini_Y, ⟨by decide +kernel, by decide +kernel, by decide +kernel⟩, by decide⟩
theorem bd_Y_aboveOf : am_Bd m_Y_aboveOf 2 := ⟨by decide +kernel, co_Y_aboveOf, ini_Y, ⟨by decide +kernel, by decide +kernel, by decide +kernel⟩, by decide⟩
theorem bd_Y_cut : am_Bd m_Y_cut 2 := ⟨by decide +kernel, co_Y_cut, ini_Y, ⟨by decide +kernel, by decide +kernel, by decide +kernel⟩, by decide⟩
theorem bd_Y_isArc : am_Bd m_Y_isArc 2 := ⟨by decide +kernel, co_Y_isArc, ini_Y, ⟨by decide +kernel, by decide +kernel, by decide +kernel⟩, by decide⟩
theorem bd_Y_odds : am_Bd m_Y_odds 3 := ⟨by decide +kernel, co_Y_odds, ini_Y, ⟨by decide +kernel, by decide +kernel, by decide +kernel⟩, by decide⟩
theorem bd_Y_isRow : am_Bd m_Y_isRow 2 := ⟨by decide +kernel, co_Y_isRow, ini_Y, ⟨by decide +kernel, by decide +kernel, by decide +kernel⟩, by decide⟩
theorem bd_Y_many : am_Bd m_Y_many 1 := ⟨by decide +kernel, co_Y_many, ini_Y, ⟨by decide +kernel, by decide +kernel, by decide +kernel⟩, by decide⟩
theorem bd_Y_hold : am_Bd m_Y_hold 2 := ⟨by decide +kernel, co_Y_hold, ini_Y, ⟨by decide +kernel, by decide +kernel, by decide +kernel⟩, by decide⟩
theorem bd_Y_told : am_Bd m_Y_told 2 := ⟨by decide +kernel, co_Y_told, ini_Y, ⟨by decide +kernel, by decide +kernel, by decide +kernel⟩, by decide⟩
theorem bd_Y_of : am_Bd m_Y_of 2 := ⟨by decide +kernel, co_Y_of, ini_Y, ⟨by decide +kernel, by decide +kernel, by decide +kernel⟩, by decide⟩
theorem bd_Y_countArcs : am_Bd m_Y_countArcs 1 := ⟨by decide +kernel, co_Y_countArcs, ini_Y, ⟨by decide +kernel, by decide +kernel, by decide +kernel⟩, by decide⟩
theorem bd_Y_belowOf : am_Bd m_Y_belowOf 1 := ⟨by decide +kernel, co_Y_belowOf, ini_Y, ⟨by decide +kernel, by decide +kernel, by decide +kernel⟩, by decide⟩
theorem bd_Y_separated : am_Bd m_Y_separated 3 := ⟨by decide +kernel, co_Y_separated, ini_Y, ⟨by decide +kernel, by decide +kernel, by decide +kernel⟩, by decide⟩
theorem bd_Y_isAsked : am_Bd m_Y_isAsked 3 := ⟨by decide +kernel, co_Y_isAsked, ini_Y, ⟨by decide +kernel, by decide +kernel, by decide +kernel⟩, by decide⟩
theorem bd_Y_isSet : am_Bd m_Y_isSet 1 := ⟨by decide +kernel, co_Y_isSet, ini_Y, ⟨by decide +kernel, by decide +kernel, by decide +kernel⟩, by decide⟩
theorem bd_Y_isSeparated : am_Bd m_Y_isSeparated 4 := ⟨by decide +kernel, co_Y_isSeparated, ini_Y, ⟨by decide +kernel, by decide +kernel, by decide +kernel⟩, by decide⟩
theorem bd_Y_walk : am_Bd m_Y_walk 3 := ⟨by decide +kernel, co_Y_walk, ini_Y, ⟨by decide +kernel, by decide +kernel, by decide +kernel⟩, by decide⟩
theorem bd_Y_children2 : am_Bd m_Y_children2 2 := ⟨by decide +kernel, co_Y_children2, ini_Y, ⟨by decide +kernel, by decide +kernel, by decide +kernel⟩, by decide⟩
theorem bd_Y_weight : am_Bd m_Y_weight 2 := ⟨by decide +kernel, co_Y_weight, ini_Y, ⟨by decide +kernel, by decide +kernel, by decide +kernel⟩, by decide⟩
theorem bd_Y_weigh : am_Bd m_Y_weigh 0 := ⟨by decide +kernel, co_Y_weigh, ini_Y, ⟨by decide +kernel, by decide +kernel, by decide +kernel⟩, by decide⟩
theorem bd_Y_independent : am_Bd m_Y_independent 3 := ⟨by decide +kernel, co_Y_independent, ini_Y, ⟨by decide +kernel, by decide +kernel, by decide +kernel⟩, by decide⟩
theorem bd_Y_hangs : am_Bd m_Y_hangs 3 := ⟨by decide +kernel, co_Y_hangs, ini_Y, ⟨by decide +kernel, by decide +kernel, by decide +kernel⟩, by decide⟩
theorem bd_Y_differ : am_Bd m_Y_differ 3 := ⟨by decide +kernel, co_Y_differ, ini_Y, ⟨by decide +kernel, by decide +kernel, by decide +kernel⟩, by decide⟩
theorem bd_Y_blanket : am_Bd m_Y_blanket 1 := ⟨by decide +kernel, co_Y_blanket, ini_Y, ⟨by decide +kernel, by decide +kernel, by decide +kernel⟩, by decide⟩
theorem bd_Y_least : am_Bd m_Y_least 2 := ⟨by decide +kernel, co_Y_least, ini_Y, ⟨by decide +kernel, by decide +kernel, by decide +kernel⟩, by decide⟩
theorem bd_Y_enough : am_Bd m_Y_enough 3 := ⟨by decide +kernel, co_Y_enough, ini_Y, ⟨by decide +kernel, by decide +kernel, by decide +kernel⟩, by decide⟩
theorem bd_Y_keep : am_Bd m_Y_keep 0 := ⟨by decide +kernel, co_Y_keep, ini_Y, ⟨by decide +kernel, by decide +kernel, by decide +kernel⟩, by decide⟩
theorem bd_Y_alike : am_Bd m_Y_alike 0 := ⟨by decide +kernel, co_Y_alike, ini_Y, ⟨by decide +kernel, by decide +kernel, by decide +kernel⟩, by decide⟩
theorem bd_Y_learn : am_Bd m_Y_learn 0 := ⟨by decide +kernel, co_Y_learn, ini_Y, ⟨by decide +kernel, by decide +kernel, by decide +kernel⟩, by decide⟩
theorem bd_Y_tellsAlike : am_Bd m_Y_tellsAlike 1 := ⟨by decide +kernel, co_Y_tellsAlike, ini_Y, ⟨by decide +kernel, by decide +kernel, by decide +kernel⟩, by decide⟩
theorem bd_Y_settled : am_Bd m_Y_settled 2 := ⟨by decide +kernel, co_Y_settled, ini_Y, ⟨by decide +kernel, by decide +kernel, by decide +kernel⟩, by decide⟩
theorem bd_Y_countFamily : am_Bd m_Y_countFamily 0 := ⟨by decide +kernel, co_Y_countFamily, ini_Y, ⟨by decide +kernel, by decide +kernel, by decide +kernel⟩, by decide⟩
theorem bd_Y_listArcs : am_Bd m_Y_listArcs 0 := ⟨by decide +kernel, co_Y_listArcs, ini_Y, ⟨by decide +kernel, by decide +kernel, by decide +kernel⟩, by decide⟩
theorem bd_Y_hasNoRing : am_Bd m_Y_hasNoRing 0 := ⟨by decide +kernel, co_Y_hasNoRing, ini_Y, ⟨by decide +kernel, by decide +kernel, by decide +kernel⟩, by decide⟩
theorem bd_Y_family : am_Bd m_Y_family 0 := ⟨by decide +kernel, co_Y_family, ini_Y, ⟨by decide +kernel, by decide +kernel, by decide +kernel⟩, by decide⟩
theorem bd_Y_count : am_Bd m_Y_count 1 := ⟨by decide +kernel, co_Y_count, ini_Y, ⟨by decide +kernel, by decide +kernel, by decide +kernel⟩, by decide⟩
end
section
/-! PURE ROWS (2) -/
theorem pu_b1 {b : Bool} (h : ¬ pu_b b = 0) : b = true := by
  cases b with
  | false => exact absurd rfl h
  | true => rfl
/-- how many of the first n bits are set -/
def pu_pop : Nat → Nat → Nat
  | 0, _ => 0
  | n + 1, m => pu_pop n m + (if m.testBit n then 1 else 0)
def pu_u (x : Int32) (k : Int32) : Int32 := (x.toUInt32 >>> (k.toUInt32 &&& Int32.toUInt32 31)).toInt32
def pu_s1 (x : Int32) : Int32 := x - (pu_u x 1 &&& 1431655765)
def pu_s2 (x : Int32) : Int32 := (x &&& 858993459) + (pu_u x 2 &&& 858993459)
def pu_s3 (x : Int32) : Int32 := (x + pu_u x 4) &&& 252645135
def pu_s4 (x : Int32) : Int32 := x + pu_u x 8
def pu_s5 (x : Int32) : Int32 := x + pu_u x 16
theorem pu_bc : ∀ m, m < 1024 → pu_s5 (pu_s4 (pu_s3 (pu_s2 (pu_s1 (nI m))))) &&& 63 = nI (pu_pop 10 m) := by decide +kernel
/-- the first i places hold v -/
def pu_fl (f : Nat → Int32) (v : Int32) (i : Nat) : Nat → Int32 := fun j => if j < i then v else f j
theorem pu_fl_0 {f : Nat → Int32} {v : Int32} : pu_fl f v 0 = f := by funext j; simp [pu_fl]
theorem pu_fl_s {f : Nat → Int32} {v : Int32} {i : Nat} : upd (pu_fl f v i) i v = pu_fl f v (i + 1) := by
  funext j
  unfold upd pu_fl
  by_cases h : j = i
  · simp [h]
  · by_cases h2 : j < i
    · simp [h, h2, show j < i + 1 by omega]
    · simp [h, h2, show ¬ j < i + 1 by omega]
def pu_flL (f : Nat → Int64) (v : Int64) (i : Nat) : Nat → Int64 := fun j => if j < i then v else f j
theorem pu_flL_0 {f : Nat → Int64} {v : Int64} : pu_flL f v 0 = f := by funext j; simp [pu_flL]
theorem pu_flL_s {f : Nat → Int64} {v : Int64} {i : Nat} : vp_updL (pu_flL f v i) i v = pu_flL f v (i + 1) := by
  funext j
  unfold vp_updL pu_flL
  by_cases h : j = i
  · simp [h]
  · by_cases h2 : j < i
    · simp [h, h2, show j < i + 1 by omega]
    · simp [h, h2, show ¬ j < i + 1 by omega]
theorem am_set_same {w : am_W} {a : Nat} {c : am_C} (h : w[a]? = some c) : w.set a c = w := by
  apply List.ext_getElem?
  intro j
  rw [List.getElem?_set]
  by_cases hj : a = j
  · subst hj
    rw [if_pos rfl, if_pos (am_ww_len h), h]
  · rw [if_neg hj]
/-- these locals, written out anew (some may be left out) -/
def am_sb (ls : am_L) : am_L → Prop
  | [] => True
  | q :: l => am_get q.1 ls = some q.2 ∧ am_sb ls l
theorem am_sb_mem {ls : am_L} : ∀ {l : am_L}, am_sb ls l → ∀ q, q ∈ l → q ∈ ls
  | _ :: _, h, q, hq => by
    rcases List.mem_cons.mp hq with rfl | hq
    · exact am_get_mem h.1
    · exact am_sb_mem h.2 q hq
theorem wp_lo {sc : am_S} {M : am_M} {d bc bs pc : Nat} {ls : am_L} {st : List Value} {w : am_W} {F : Option Value → am_W → Prop} (ls' : am_L) (h : am_sb ls ls') (k : am_Wp sc M d bc bs pc ls' st w F) : am_Wp sc M d bc bs pc ls st w F := wp_ls (am_sb_mem h) k
end
section
/-! CONTRACTS of the leaves: bit, has, answer, union, closure, bitCount, fill -/
set_option maxHeartbeats 4000000 in
set_option maxRecDepth 100000 in
theorem c_bit {w : am_W} {i : Nat} (hi : i < 31) : am_Wp none m_X_bit 0 0 0 0 [(0, .int (nI i))] [] w (am_R (some (.int (nI (2 ^ i)))) w) := by
  refine wp_iconst (q := 1) (v := 1) d_X_bit_0 rfl (by decide) ?_
  refine wp_iload_n (q := 2) d_X_bit_1 rfl rfl rfl ?_
  refine wp_ishl (q := 3) d_X_bit_2 rfl ?_
  exact wp_ireturn rfl d_X_bit_3 ⟨by rw [pu_bit i hi], rfl⟩
set_option maxHeartbeats 4000000 in
set_option maxRecDepth 100000 in
theorem c_has {w : am_W} {m i : Nat} (hm : m < 2 ^ 31) (hi : i < 32) : am_Wp none m_X_has 0 0 0 0 [(0, .int (nI m)), (1, .int (nI i))] [] w (am_R (some (.int (pu_b (m.testBit i)))) w) := by
  refine wp_iload_n (q := 1) d_X_has_0 rfl rfl rfl ?_
  refine wp_iload_n (q := 2) d_X_has_1 rfl rfl rfl ?_
  refine wp_ishr (q := 3) d_X_has_2 rfl ?_
  refine wp_iconst (q := 4) (v := 1) d_X_has_3 rfl (by decide) ?_
  refine wp_iand (q := 5) d_X_has_4 rfl ?_
  refine wp_if_eq (q := 8) (tgt := 12) d_X_has_5 (by decide) rfl (fun c5 => ?_) (fun c5 => ?_)
  · rw [pu_has hm hi] at c5
    refine wp_iconst (q := 13) (v := 0) d_X_has_12 rfl (by decide) ?_
    exact wp_zreturn rfl rfl d_X_has_13 ⟨by rw [pu_b0.mp c5]; rfl, rfl⟩
  · rw [pu_has hm hi] at c5
    refine wp_iconst (q := 9) (v := 1) d_X_has_8 rfl (by decide) ?_
    refine wp_goto (tgt := 13) d_X_has_9 (by decide) ?_
    exact wp_zreturn rfl rfl d_X_has_13 ⟨by rw [pu_b1 c5]; rfl, rfl⟩
set_option maxHeartbeats 4000000 in
set_option maxRecDepth 100000 in
theorem c_answer {w : am_W} {b : Bool} : am_Wp none m_X_answer 0 0 0 0 [(0, .int (pu_b b))] [] w (am_R (some (.int (pu_b b))) w) := by
  refine wp_iload_n (q := 1) d_X_answer_0 rfl rfl rfl ?_
  refine wp_if_eq (q := 4) (tgt := 8) d_X_answer_1 (by decide) rfl (fun c1 => ?_) (fun c1 => ?_)
  · refine wp_iconst (q := 9) (v := 0) d_X_answer_8 rfl (by decide) ?_
    exact wp_ireturn rfl d_X_answer_9 ⟨by rw [pu_b0.mp c1]; rfl, rfl⟩
  · refine wp_iconst (q := 5) (v := 1) d_X_answer_4 rfl (by decide) ?_
    refine wp_goto (tgt := 9) d_X_answer_5 (by decide) ?_
    exact wp_ireturn rfl d_X_answer_9 ⟨by rw [pu_b1 c1]; rfl, rfl⟩
set_option maxHeartbeats 4000000 in
set_option maxRecDepth 100000 in
theorem c_union_L {w : am_W} {a n m : Nat} {g : Nat → Nat} (hc : w[a]? = some (.inl (0, n, .inl (fun i => nI (g i))))) (hn : n ≤ 31) (hm : m < 2 ^ 31) : ∀ i, i ≤ n → am_Wp none m_X_union 1 0 0 4 [(0, .ref a), (1, .int (nI m)), (2, .int (nI (pu_un g m i))), (3, .int (nI i))] [] w (am_R (some (.int (nI (pu_un g m n)))) w) := by
  refine pu_up (P := fun i => am_Wp none m_X_union 1 0 0 4 [(0, .ref a), (1, .int (nI m)), (2, .int (nI (pu_un g m i))), (3, .int (nI i))] [] w (am_R (some (.int (nI (pu_un g m n)))) w)) ?_ ?_
  · show am_Wp _ _ _ _ _ _ _ _ _ _
    refine wp_iload_n (q := 5) d_X_union_4 rfl rfl rfl ?_
    refine wp_aload_n (q := 6) d_X_union_5 rfl rfl rfl ?_
    refine wp_alen (v := nI n) (q := 7) d_X_union_6 rfl hc (by decide) rfl ?_
    refine wp_icmp_ge (q := 10) (tgt := 30) d_X_union_7 (by decide) rfl (fun _ => ?_) (fun c7 => absurd (nI_le (Nat.le_refl n) (by omega)) c7)
    refine wp_iload_n (q := 31) d_X_union_30 rfl rfl rfl ?_
    exact wp_ireturn rfl d_X_union_31 ⟨rfl, rfl⟩
  · intro i hi ih
    have ih : am_Wp _ _ _ _ _ _ _ _ _ _ := ih
    show am_Wp _ _ _ _ _ _ _ _ _ _
    refine wp_iload_n (q := 5) d_X_union_4 rfl rfl rfl ?_
    refine wp_aload_n (q := 6) d_X_union_5 rfl rfl rfl ?_
    refine wp_alen (v := nI n) (q := 7) d_X_union_6 rfl hc (by decide) rfl ?_
    refine wp_icmp_ge (q := 10) (tgt := 30) d_X_union_7 (by decide) rfl (fun c7 => absurd c7 (nI_ge hi (by omega))) (fun _ => ?_)
    refine wp_iload_n (q := 11) d_X_union_10 rfl rfl rfl ?_
    refine wp_iload_n (q := 12) d_X_union_11 rfl rfl rfl ?_
    refine wp_cS2r (q := 15) d_X_union_12 rfl bd_X_has lk_X_82 sm_X_has (Nat.le_of_ble_eq_true rfl) (Nat.le_of_ble_eq_true rfl) (Nat.le_of_ble_eq_true rfl) (c_has hm (by omega)) ?_
    refine wp_if_eq (q := 18) (tgt := 24) d_X_union_15 (by decide) rfl (fun c15 => ?_) (fun c15 => ?_)
    · refine wp_inc1 (q := 27) d_X_union_24 rfl rfl (nI_1 _) (Nat.le_of_ble_eq_true rfl) rfl ?_
      refine wp_goto (tgt := 4) d_X_union_27 (by decide) ?_
      have e : pu_un g m (i + 1) = pu_un g m i := by simp [pu_un, pu_b0.mp c15]
      rw [e] at ih
      exact ih
    · refine wp_iload_n (q := 19) d_X_union_18 rfl rfl rfl ?_
      refine wp_aload_n (q := 20) d_X_union_19 rfl rfl rfl ?_
      refine wp_iload_n (q := 21) d_X_union_20 rfl rfl rfl ?_
      refine wp_ialoadN (q := 22) d_X_union_21 rfl hc rfl hi (by omega) ?_
      refine wp_ior (q := 23) d_X_union_22 rfl ?_
      refine wp_istore_n (q := 24) d_X_union_23 rfl rfl (Nat.le_of_ble_eq_true rfl) rfl ?_
      refine wp_inc1 (q := 27) d_X_union_24 rfl rfl (nI_1 _) (Nat.le_of_ble_eq_true rfl) rfl ?_
      refine wp_goto (tgt := 4) d_X_union_27 (by decide) ?_
      have e : pu_un g m (i + 1) = pu_un g m i ||| g i := by simp [pu_un, pu_b1 c15]
      rw [e, ← pu_or] at ih
      exact ih
set_option maxHeartbeats 4000000 in
set_option maxRecDepth 100000 in
theorem c_union {w : am_W} {a n m : Nat} {g : Nat → Nat} (hc : w[a]? = some (.inl (0, n, .inl (fun i => nI (g i))))) (hn : n ≤ 31) (hm : m < 2 ^ 31) : am_Wp none m_X_union 1 0 0 0 [(0, .ref a), (1, .int (nI m))] [] w (am_R (some (.int (nI (pu_un g m n)))) w) := by
  refine wp_iconst (q := 1) (v := 0) d_X_union_0 rfl (by decide) ?_
  refine wp_istore_n (q := 2) d_X_union_1 rfl rfl (Nat.le_of_ble_eq_true rfl) rfl ?_
  refine wp_iconst (q := 3) (v := 0) d_X_union_2 rfl (by decide) ?_
  refine wp_istore_n (q := 4) d_X_union_3 rfl rfl (Nat.le_of_ble_eq_true rfl) rfl ?_
  exact c_union_L hc hn hm 0 (Nat.zero_le _)
set_option maxHeartbeats 4000000 in
set_option maxRecDepth 100000 in
theorem c_closure_L {w : am_W} {a n : Nat} {y : Int32} {g : Nat → Nat} (hc : w[a]? = some (.inl (0, n, .inl (fun i => nI (g i))))) (hn : n ≤ 31) (hg : ∀ i, g i < 2 ^ 8) : ∀ (k x i : Nat), i + k = n → x < 2 ^ 8 → am_Wp none m_X_closure 2 0 0 4 [(0, .ref a), (1, .int y), (2, .int (nI x)), (3, .int (nI i))] [] w (am_R (some (.int (nI (pu_cl g n k x)))) w) := by
  intro k
  induction k with
  | zero =>
    intro x i hi hx
    refine wp_iload_n (q := 5) d_X_closure_4 rfl rfl rfl ?_
    refine wp_aload_n (q := 6) d_X_closure_5 rfl rfl rfl ?_
    refine wp_alen (v := nI n) (q := 7) d_X_closure_6 rfl hc (by decide) rfl ?_
    refine wp_icmp_ge (q := 10) (tgt := 37) d_X_closure_7 (by decide) rfl (fun _ => ?_) (fun c7 => absurd (nI_le (by omega) (by omega)) c7)
    refine wp_iload_n (q := 38) d_X_closure_37 rfl rfl rfl ?_
    exact wp_ireturn rfl d_X_closure_38 ⟨rfl, rfl⟩
  | succ k ih =>
    intro x i hi hx
    refine wp_iload_n (q := 5) d_X_closure_4 rfl rfl rfl ?_
    refine wp_aload_n (q := 6) d_X_closure_5 rfl rfl rfl ?_
    refine wp_alen (v := nI n) (q := 7) d_X_closure_6 rfl hc (by decide) rfl ?_
    refine wp_icmp_ge (q := 10) (tgt := 37) d_X_closure_7 (by decide) rfl (fun c7 => absurd c7 (nI_ge (by omega) (by omega))) (fun _ => ?_)
    refine wp_iload_n (q := 11) d_X_closure_10 rfl rfl rfl ?_
    refine wp_aload_n (q := 12) d_X_closure_11 rfl rfl rfl ?_
    refine wp_iload_n (q := 13) d_X_closure_12 rfl rfl rfl ?_
    refine wp_cS2r (q := 16) d_X_closure_13 rfl bd_X_union lk_X_210 sm_X_union (Nat.le_of_ble_eq_true rfl) (Nat.le_of_ble_eq_true rfl) (Nat.le_of_ble_eq_true rfl) (c_union hc hn (by omega)) ?_
    refine wp_ior (q := 17) d_X_closure_16 rfl ?_
    rw [pu_or]
    refine wp_istore (q := 19) d_X_closure_17 rfl (Nat.le_of_ble_eq_true rfl) rfl ?_
    refine wp_iload (q := 21) d_X_closure_19 rfl rfl ?_
    refine wp_iload_n (q := 22) d_X_closure_21 rfl rfl rfl ?_
    refine wp_icmp_ne (q := 25) (tgt := 28) d_X_closure_22 (by decide) rfl (fun c22 => ?_) (fun c22 => ?_)
    · have hne : ¬ (x ||| pu_un g x n = x) := fun e => c22 (by rw [e])
      refine wp_iload (q := 30) d_X_closure_28 rfl rfl ?_
      refine wp_istore_n (q := 31) d_X_closure_30 rfl rfl (Nat.le_of_ble_eq_true rfl) rfl ?_
      refine wp_inc1 (q := 34) d_X_closure_31 rfl rfl (nI_1 _) (Nat.le_of_ble_eq_true rfl) rfl ?_
      refine wp_goto (tgt := 4) d_X_closure_34 (by decide) ?_
      have hlt : x ||| pu_un g x n < 2 ^ 8 := Nat.or_lt_two_pow hx (pu_un_lt hg n)
      refine wp_lo [(0, .ref a), (1, .int y), (2, .int (nI (x ||| pu_un g x n))), (3, .int (nI (i + 1)))] ⟨rfl, rfl, rfl, rfl, trivial⟩ ?_
      have e : pu_cl g n (k + 1) x = pu_cl g n k (x ||| pu_un g x n) := by simp [pu_cl, hne]
      rw [e]
      exact ih (x ||| pu_un g x n) (i + 1) (by omega) hlt
    · have hlt : x ||| pu_un g x n < 2 ^ 8 := Nat.or_lt_two_pow hx (pu_un_lt hg n)
      have he : x ||| pu_un g x n = x := pu_nI_inj (by omega) (by omega) c22
      have e : pu_cl g n (k + 1) x = x := by simp [pu_cl, he]
      rw [e]
      refine wp_goto (tgt := 37) d_X_closure_25 (by decide) ?_
      refine wp_iload_n (q := 38) d_X_closure_37 rfl rfl rfl ?_
      exact wp_ireturn rfl d_X_closure_38 ⟨rfl, rfl⟩
set_option maxHeartbeats 4000000 in
set_option maxRecDepth 100000 in
theorem c_closure {w : am_W} {a n x : Nat} {g : Nat → Nat} (hc : w[a]? = some (.inl (0, n, .inl (fun i => nI (g i))))) (hn : n ≤ 31) (hg : ∀ i, g i < 2 ^ 8) (hx : x < 2 ^ 8) : am_Wp none m_X_closure 2 0 0 0 [(0, .ref a), (1, .int (nI x))] [] w (am_R (some (.int (nI (pu_cl g n n x)))) w) := by
  refine wp_iload_n (q := 1) d_X_closure_0 rfl rfl rfl ?_
  refine wp_istore_n (q := 2) d_X_closure_1 rfl rfl (Nat.le_of_ble_eq_true rfl) rfl ?_
  refine wp_iconst (q := 3) (v := 0) d_X_closure_2 rfl (by decide) ?_
  refine wp_istore_n (q := 4) d_X_closure_3 rfl rfl (Nat.le_of_ble_eq_true rfl) rfl ?_
  exact c_closure_L hc hn hg n x 0 (by omega) hx
set_option maxHeartbeats 4000000 in
set_option maxRecDepth 100000 in
theorem c_bitCount {w : am_W} {m : Nat} (hm : m < 1024) : am_Wp none m_I_bitCount 0 0 0 0 [(0, .int (nI m))] [] w (am_R (some (.int (nI (pu_pop 10 m)))) w) := by
  refine wp_iload_n (q := 1) d_I_bitCount_0 rfl rfl rfl ?_
  refine wp_iload_n (q := 2) d_I_bitCount_1 rfl rfl rfl ?_
  refine wp_iconst (q := 3) (v := 1) d_I_bitCount_2 rfl (by decide) ?_
  refine wp_iushr (q := 4) d_I_bitCount_3 rfl ?_
  refine wp_ldcw (q := 7) d_I_bitCount_4 rfl kk_I_265 ?_
  refine wp_iand (q := 8) d_I_bitCount_7 rfl ?_
  refine wp_isub (q := 9) d_I_bitCount_8 rfl ?_
  refine wp_istore_n (q := 10) d_I_bitCount_9 rfl rfl (Nat.le_of_ble_eq_true rfl) rfl ?_
  refine wp_iload_n (q := 11) d_I_bitCount_10 rfl rfl rfl ?_
  refine wp_ldcw (q := 14) d_I_bitCount_11 rfl kk_I_266 ?_
  refine wp_iand (q := 15) d_I_bitCount_14 rfl ?_
  refine wp_iload_n (q := 16) d_I_bitCount_15 rfl rfl rfl ?_
  refine wp_iconst (q := 17) (v := 2) d_I_bitCount_16 rfl (by decide) ?_
  refine wp_iushr (q := 18) d_I_bitCount_17 rfl ?_
  refine wp_ldcw (q := 21) d_I_bitCount_18 rfl kk_I_266 ?_
  refine wp_iand (q := 22) d_I_bitCount_21 rfl ?_
  refine wp_iadd (q := 23) d_I_bitCount_22 rfl ?_
  refine wp_istore_n (q := 24) d_I_bitCount_23 rfl rfl (Nat.le_of_ble_eq_true rfl) rfl ?_
  refine wp_iload_n (q := 25) d_I_bitCount_24 rfl rfl rfl ?_
  refine wp_iload_n (q := 26) d_I_bitCount_25 rfl rfl rfl ?_
  refine wp_iconst (q := 27) (v := 4) d_I_bitCount_26 rfl (by decide) ?_
  refine wp_iushr (q := 28) d_I_bitCount_27 rfl ?_
  refine wp_iadd (q := 29) d_I_bitCount_28 rfl ?_
  refine wp_ldcw (q := 32) d_I_bitCount_29 rfl kk_I_267 ?_
  refine wp_iand (q := 33) d_I_bitCount_32 rfl ?_
  refine wp_istore_n (q := 34) d_I_bitCount_33 rfl rfl (Nat.le_of_ble_eq_true rfl) rfl ?_
  refine wp_iload_n (q := 35) d_I_bitCount_34 rfl rfl rfl ?_
  refine wp_iload_n (q := 36) d_I_bitCount_35 rfl rfl rfl ?_
  refine wp_bipush (q := 38) (v := 8) d_I_bitCount_36 rfl (by decide) ?_
  refine wp_iushr (q := 39) d_I_bitCount_38 rfl ?_
  refine wp_iadd (q := 40) d_I_bitCount_39 rfl ?_
  refine wp_istore_n (q := 41) d_I_bitCount_40 rfl rfl (Nat.le_of_ble_eq_true rfl) rfl ?_
  refine wp_iload_n (q := 42) d_I_bitCount_41 rfl rfl rfl ?_
  refine wp_iload_n (q := 43) d_I_bitCount_42 rfl rfl rfl ?_
  refine wp_bipush (q := 45) (v := 16) d_I_bitCount_43 rfl (by decide) ?_
  refine wp_iushr (q := 46) d_I_bitCount_45 rfl ?_
  refine wp_iadd (q := 47) d_I_bitCount_46 rfl ?_
  refine wp_istore_n (q := 48) d_I_bitCount_47 rfl rfl (Nat.le_of_ble_eq_true rfl) rfl ?_
  refine wp_iload_n (q := 49) d_I_bitCount_48 rfl rfl rfl ?_
  refine wp_bipush (q := 51) (v := 63) d_I_bitCount_49 rfl (by decide) ?_
  refine wp_iand (q := 52) d_I_bitCount_51 rfl ?_
  exact wp_ireturn rfl d_I_bitCount_52 ⟨congrArg (fun z => some (Value.int z)) (pu_bc m hm), rfl⟩
set_option maxHeartbeats 4000000 in
set_option maxRecDepth 100000 in
theorem c_fill_L {w : am_W} {a n : Nat} {v : Int32} {f : Nat → Int32} (hc : w[a]? = some (.inl (0, n, .inl f))) (hn : n < 2 ^ 30) : ∀ i, i ≤ n → am_Wp none m_A_fillI 0 0 0 5 [(0, .ref a), (1, .int v), (2, .int (nI i)), (3, .int (nI n))] [] (w.set a (.inl (0, n, .inl (pu_fl f v i)))) (am_R none (w.set a (.inl (0, n, .inl (fun _ => v))))) := by
  refine pu_up (P := fun i => am_Wp none m_A_fillI 0 0 0 5 [(0, .ref a), (1, .int v), (2, .int (nI i)), (3, .int (nI n))] [] (w.set a (.inl (0, n, .inl (pu_fl f v i)))) (am_R none (w.set a (.inl (0, n, .inl (fun _ => v)))))) ?_ ?_
  · show am_Wp _ _ _ _ _ _ _ _ _ _
    refine wp_iload_n (q := 6) d_A_fillI_5 rfl rfl rfl ?_
    refine wp_iload_n (q := 7) d_A_fillI_6 rfl rfl rfl ?_
    refine wp_icmp_ge (q := 10) (tgt := 20) d_A_fillI_7 (by decide) rfl (fun _ => ?_) (fun c7 => absurd (nI_le (Nat.le_refl n) (by omega)) c7)
    refine wp_chg (g := fun _ => v) (am_at_eq hc) (fun j hj => by simp [pu_fl, hj]) rfl ?_
    exact wp_return rfl d_A_fillI_20 ⟨rfl, by rw [List.set_set]⟩
  · intro i hi ih
    have ih : am_Wp _ _ _ _ _ _ _ _ _ _ := ih
    show am_Wp _ _ _ _ _ _ _ _ _ _
    refine wp_iload_n (q := 6) d_A_fillI_5 rfl rfl rfl ?_
    refine wp_iload_n (q := 7) d_A_fillI_6 rfl rfl rfl ?_
    refine wp_icmp_ge (q := 10) (tgt := 20) d_A_fillI_7 (by decide) rfl (fun c7 => absurd c7 (nI_ge hi (by omega))) (fun _ => ?_)
    refine wp_aload_n (q := 11) d_A_fillI_10 rfl rfl rfl ?_
    refine wp_iload_n (q := 12) d_A_fillI_11 rfl rfl rfl ?_
    refine wp_iload_n (q := 13) d_A_fillI_12 rfl rfl rfl ?_
    refine wp_iastoreN (w' := w.set a (.inl (0, n, .inl (pu_fl f v (i + 1))))) (q := 14) d_A_fillI_13 rfl (am_at_eq hc) rfl hi (by omega) (by rw [List.set_set, pu_fl_s]) ?_
    refine wp_inc1 (q := 17) d_A_fillI_14 rfl rfl (nI_1 _) (Nat.le_of_ble_eq_true rfl) rfl ?_
    refine wp_goto (tgt := 5) d_A_fillI_17 (by decide) ?_
    exact ih
set_option maxHeartbeats 4000000 in
set_option maxRecDepth 100000 in
theorem c_fill {w : am_W} {a n : Nat} {v : Int32} {f : Nat → Int32} (hc : w[a]? = some (.inl (0, n, .inl f))) (hn : n < 2 ^ 30) : am_Wp none m_A_fillI 0 0 0 0 [(0, .ref a), (1, .int v)] [] w (am_R none (w.set a (.inl (0, n, .inl (fun _ => v))))) := by
  refine wp_iconst (q := 1) (v := 0) d_A_fillI_0 rfl (by decide) ?_
  refine wp_istore_n (q := 2) d_A_fillI_1 rfl rfl (Nat.le_of_ble_eq_true rfl) rfl ?_
  refine wp_aload_n (q := 3) d_A_fillI_2 rfl rfl rfl ?_
  refine wp_alen (v := nI n) (q := 4) d_A_fillI_3 rfl hc (by decide) rfl ?_
  refine wp_istore_n (q := 5) d_A_fillI_4 rfl rfl (Nat.le_of_ble_eq_true rfl) rfl ?_
  have h0 := c_fill_L (v := v) hc hn 0 (Nat.zero_le _)
  rw [pu_fl_0, am_set_same hc] at h0
  exact h0
set_option maxHeartbeats 4000000 in
set_option maxRecDepth 100000 in
theorem c_fillJ_L {w : am_W} {a n : Nat} {v : Int64} {f : Nat → Int64} (hc : w[a]? = some (.inl (1, n, .inr (.inl f)))) (hn : n < 2 ^ 30) : ∀ i, i ≤ n → am_Wp none m_A_fillJ 0 0 0 6 [(0, .ref a), (1, .long v), (3, .int (nI i)), (4, .int (nI n))] [] (w.set a (.inl (1, n, .inr (.inl (pu_flL f v i))))) (am_R none (w.set a (.inl (1, n, .inr (.inl (fun _ => v)))))) := by
  refine pu_up (P := fun i => am_Wp none m_A_fillJ 0 0 0 6 [(0, .ref a), (1, .long v), (3, .int (nI i)), (4, .int (nI n))] [] (w.set a (.inl (1, n, .inr (.inl (pu_flL f v i))))) (am_R none (w.set a (.inl (1, n, .inr (.inl (fun _ => v))))))) ?_ ?_
  · show am_Wp _ _ _ _ _ _ _ _ _ _
    refine wp_iload_n (q := 7) d_A_fillJ_6 rfl rfl rfl ?_
    refine wp_iload (q := 9) d_A_fillJ_7 rfl rfl ?_
    refine wp_icmp_ge (q := 12) (tgt := 22) d_A_fillJ_9 (by decide) rfl (fun _ => ?_) (fun c9 => absurd (nI_le (Nat.le_refl n) (by omega)) c9)
    refine wp_chgL (g := fun _ => v) (am_at_eq hc) (fun j hj => by simp [pu_flL, hj]) rfl ?_
    exact wp_return rfl d_A_fillJ_22 ⟨rfl, by rw [List.set_set]⟩
  · intro i hi ih
    have ih : am_Wp _ _ _ _ _ _ _ _ _ _ := ih
    show am_Wp _ _ _ _ _ _ _ _ _ _
    refine wp_iload_n (q := 7) d_A_fillJ_6 rfl rfl rfl ?_
    refine wp_iload (q := 9) d_A_fillJ_7 rfl rfl ?_
    refine wp_icmp_ge (q := 12) (tgt := 22) d_A_fillJ_9 (by decide) rfl (fun c9 => absurd c9 (nI_ge hi (by omega))) (fun _ => ?_)
    refine wp_aload_n (q := 13) d_A_fillJ_12 rfl rfl rfl ?_
    refine wp_iload_n (q := 14) d_A_fillJ_13 rfl rfl rfl ?_
    refine wp_lload_n (q := 15) d_A_fillJ_14 rfl rfl rfl ?_
    refine wp_lastoreN (w' := w.set a (.inl (1, n, .inr (.inl (pu_flL f v (i + 1)))))) (q := 16) d_A_fillJ_15 rfl (am_at_eq hc) rfl hi (by omega) (by rw [List.set_set, pu_flL_s]) ?_
    refine wp_inc1 (q := 19) d_A_fillJ_16 rfl rfl (nI_1 _) (Nat.le_of_ble_eq_true rfl) rfl ?_
    refine wp_goto (tgt := 6) d_A_fillJ_19 (by decide) ?_
    exact ih
set_option maxHeartbeats 4000000 in
set_option maxRecDepth 100000 in
theorem c_fillJ {w : am_W} {a n : Nat} {v : Int64} {f : Nat → Int64} (hc : w[a]? = some (.inl (1, n, .inr (.inl f)))) (hn : n < 2 ^ 30) : am_Wp none m_A_fillJ 0 0 0 0 [(0, .ref a), (1, .long v)] [] w (am_R none (w.set a (.inl (1, n, .inr (.inl (fun _ => v)))))) := by
  refine wp_iconst (q := 1) (v := 0) d_A_fillJ_0 rfl (by decide) ?_
  refine wp_istore_n (q := 2) d_A_fillJ_1 rfl rfl (Nat.le_of_ble_eq_true rfl) rfl ?_
  refine wp_aload_n (q := 3) d_A_fillJ_2 rfl rfl rfl ?_
  refine wp_alen (v := nI n) (q := 4) d_A_fillJ_3 rfl hc (by decide) rfl ?_
  refine wp_istore (q := 6) d_A_fillJ_4 rfl (Nat.le_of_ble_eq_true rfl) rfl ?_
  have h0 := c_fillJ_L (v := v) hc hn 0 (Nat.zero_le _)
  rw [pu_flL_0, am_set_same hc] at h0
  exact h0
end
section
/-! THE STATE: which cells hold what -/
/-- a row of numbers -/
abbrev am_ar (n : Nat) (g : Nat → Nat) : am_C := .inl (0, n, .inl (fun i => nI (g i)))
/-- only the cells of D have changed -/
def am_fr (D : List Nat) (w w1 : am_W) : Prop := w1.length = w.length ∧ ∀ i, i ∉ D → w1[i]? = w[i]?
theorem am_fr.rf {D : List Nat} {w : am_W} : am_fr D w w := ⟨rfl, fun _ _ => rfl⟩
theorem am_fr.put {D : List Nat} {w w1 : am_W} {a : Nat} {c : am_C} (h : am_fr D w w1) (ha : a ∈ D) : am_fr D w (w1.set a c) :=
  ⟨by rw [List.length_set]; exact h.1, fun i hi => by
    have hne : ¬ a = i := fun e => hi (by rw [← e]; exact ha)
    rw [List.getElem?_set, if_neg hne]; exact h.2 i hi⟩
theorem am_fr.tr {D : List Nat} {w w1 w2 : am_W} (h : am_fr D w w1) (g : am_fr D w1 w2) : am_fr D w w2 := ⟨g.1.trans h.1, fun i hi => (g.2 i hi).trans (h.2 i hi)⟩
theorem am_fr.up {D D' : List Nat} {w w1 : am_W} (h : am_fr D w w1) (g : ∀ i, i ∈ D → i ∈ D') : am_fr D' w w1 := ⟨h.1, fun i hi => h.2 i (fun q => hi (g i q))⟩
theorem am_fr.at {D : List Nat} {w w1 : am_W} (h : am_fr D w w1) {i : Nat} (hi : i ∉ D) {c : am_C} (hc : w[i]? = some c) : w1[i]? = some c := (h.2 i hi).trans hc
/-- a graph: its object a, its rows p (parents) and c (children); n places, k arcs -/
def GI (a p c n k : Nat) (P C : Nat → Nat) (w : am_W) : Prop :=
  w[a]? = some (.inr (1, [.int (nI n), .int (nI k), .ref p, .ref c])) ∧ w[p]? = some (am_ar 8 P) ∧ w[c]? = some (am_ar 8 C)
theorem GI.at {D : List Nat} {w w1 : am_W} {a p c n k : Nat} {P C : Nat → Nat} (h : GI a p c n k P C w) (f : am_fr D w w1) (ha : a ∉ D) (hp : p ∉ D) (hc : c ∉ D) : GI a p c n k P C w1 := ⟨f.at ha h.1, f.at hp h.2.1, f.at hc h.2.2⟩
/-- the strangers of a parent: the other parents of the child that no arc joins to it -/
def pu_st (P C : Nat → Nat) (p c : Nat) : Nat := if (P c).testBit p then pu_dif (pu_dif (P c) (2 ^ p)) (P p ||| C p) else 0
theorem pu_p2 {i : Nat} (h : i < 8) : 2 ^ i < 256 := by
  rcases (show i = 0 ∨ i = 1 ∨ i = 2 ∨ i = 3 ∨ i = 4 ∨ i = 5 ∨ i = 6 ∨ i = 7 by omega) with rfl | rfl | rfl | rfl | rfl | rfl | rfl | rfl <;> decide
theorem pu_p2e {i : Nat} (h : i ≤ 8) : 2 ^ i ≤ 256 := by
  rcases (show i < 8 ∨ i = 8 by omega) with h | rfl
  · exact Nat.le_of_lt (pu_p2 h)
  · decide
theorem pu_p1 (i : Nat) : 1 ≤ 2 ^ i := Nat.one_le_two_pow
theorem pu_or_lt {a b : Nat} (ha : a < 256) (hb : b < 256) : a ||| b < 256 := Nat.or_lt_two_pow (n := 8) ha hb
theorem pu_dif_lt {a b : Nat} (ha : a < 256) : pu_dif a b < 256 := Nat.lt_of_le_of_lt (pu_dif_le a b) ha
theorem pu_st_lt {P C : Nat → Nat} {p c : Nat} (h : ∀ i, P i < 256) : pu_st P C p c < 256 := by
  unfold pu_st
  by_cases hb : (P c).testBit p = true
  · rw [if_pos hb]; exact pu_dif_lt (pu_dif_lt (h c))
  · rw [if_neg hb]; decide
theorem pu_pop_le : ∀ n m, pu_pop n m ≤ n
  | 0, _ => Nat.le_refl 0
  | n + 1, m => by
    unfold pu_pop
    have := pu_pop_le n m
    by_cases h : m.testBit n = true
    · rw [if_pos h]; omega
    · rw [if_neg h]; omega
theorem pu_pop8 {m : Nat} (h : m < 256) : pu_pop 10 m = pu_pop 8 m := by
  have h8 : m.testBit 8 = false := Nat.testBit_lt_two_pow (by omega)
  have h9 : m.testBit 9 = false := Nat.testBit_lt_two_pow (by omega)
  show pu_pop 8 m + (if m.testBit 8 then 1 else 0) + (if m.testBit 9 then 1 else 0) = _
  rw [h8, h9]; simp
end
section
/-! CONTRACTS of Graph -/
set_option maxHeartbeats 4000000 in
set_option maxRecDepth 100000 in
theorem c_G_everyPlace {w : am_W} {a p c n k : Nat} {P C : Nat → Nat} (hG : GI a p c n k P C w) (hn : n ≤ 8) : am_Wp none m_G_everyPlace 1 0 0 0 [(0, .ref a)] [] w (am_R (some (.int (nI (2 ^ n - 1)))) w) := by
  refine wp_aload_n (q := 1) d_G_everyPlace_0 rfl rfl rfl ?_
  refine wp_get (q := 4) (k := 0) d_G_everyPlace_1 rfl ok_G (Nat.le_of_ble_eq_true rfl) fk_G_9 hG.1 rfl ?_
  refine wp_cSN1r (q := 7) d_G_everyPlace_4 rfl bd_X_bit lk_G_37 sm_X_bit (Nat.le_of_ble_eq_true rfl) (Nat.le_of_ble_eq_true rfl) (Nat.le_of_ble_eq_true rfl) (c_bit (by omega)) ?_
  refine wp_iconst (q := 8) (v := 1) d_G_everyPlace_7 rfl (by decide) ?_
  refine wp_isub (q := 9) d_G_everyPlace_8 rfl ?_
  exact wp_ireturn rfl d_G_everyPlace_9 ⟨by rw [show (1 : Int32) = nI 1 from rfl, pk_sub (pu_p1 n)], rfl⟩
set_option maxHeartbeats 4000000 in
set_option maxRecDepth 100000 in
theorem c_G_neighbours {w : am_W} {a p c n k : Nat} {P C : Nat → Nat} (hG : GI a p c n k P C w) {i : Nat} (hi : i < 8) : am_Wp none m_G_neighbours 0 0 0 0 [(0, .ref a), (1, .int (nI i))] [] w (am_R (some (.int (nI (P i ||| C i)))) w) := by
  refine wp_aload_n (q := 1) d_G_neighbours_0 rfl rfl rfl ?_
  refine wp_get (q := 4) (k := 2) d_G_neighbours_1 rfl ok_G (Nat.le_of_ble_eq_true rfl) fk_G_18 hG.1 rfl ?_
  refine wp_iload_n (q := 5) d_G_neighbours_4 rfl rfl rfl ?_
  refine wp_ialoadN (q := 6) d_G_neighbours_5 rfl hG.2.1 rfl hi (by decide) ?_
  refine wp_aload_n (q := 7) d_G_neighbours_6 rfl rfl rfl ?_
  refine wp_get (q := 10) (k := 3) d_G_neighbours_7 rfl ok_G (Nat.le_of_ble_eq_true rfl) fk_G_22 hG.1 rfl ?_
  refine wp_iload_n (q := 11) d_G_neighbours_10 rfl rfl rfl ?_
  refine wp_ialoadN (q := 12) d_G_neighbours_11 rfl hG.2.2 rfl hi (by decide) ?_
  refine wp_ior (q := 13) d_G_neighbours_12 rfl ?_
  exact wp_ireturn rfl d_G_neighbours_13 ⟨by rw [pu_or], rfl⟩
set_option maxHeartbeats 4000000 in
set_option maxRecDepth 100000 in
theorem c_G_rows {w : am_W} {a p c n k : Nat} {P C : Nat → Nat} (hG : GI a p c n k P C w) (hP : ∀ i, P i < 256) {i : Nat} (hi : i < 8) : am_Wp none m_G_rows 1 0 0 0 [(0, .ref a), (1, .int (nI i))] [] w (am_R (some (.int (nI (2 ^ pu_pop 8 (P i))))) w) := by
  refine wp_iconst (q := 1) (v := 1) d_G_rows_0 rfl (by decide) ?_
  refine wp_aload_n (q := 2) d_G_rows_1 rfl rfl rfl ?_
  refine wp_get (q := 5) (k := 2) d_G_rows_2 rfl ok_G (Nat.le_of_ble_eq_true rfl) fk_G_18 hG.1 rfl ?_
  refine wp_iload_n (q := 6) d_G_rows_5 rfl rfl rfl ?_
  refine wp_ialoadN (q := 7) d_G_rows_6 rfl hG.2.1 rfl hi (by decide) ?_
  refine wp_cS1r (q := 10) d_G_rows_7 rfl bd_I_bitCount lk_G_41 sm_I_bitCount (Nat.le_of_ble_eq_true rfl) (Nat.le_of_ble_eq_true rfl) (Nat.le_of_ble_eq_true rfl) (c_bitCount (Nat.lt_trans (hP i) (by decide))) ?_
  refine wp_ishl (q := 11) d_G_rows_10 rfl ?_
  exact wp_ireturn rfl d_G_rows_11 ⟨by rw [pu_pop8 (hP i), pu_bit _ (Nat.lt_of_le_of_lt (pu_pop_le _ _) (by decide))], rfl⟩
set_option maxHeartbeats 4000000 in
set_option maxRecDepth 100000 in
theorem c_G_strangers {w : am_W} {a p c n k : Nat} {P C : Nat → Nat} (hG : GI a p c n k P C w) (hP : ∀ i, P i < 256) {i j : Nat} (hi : i < 8) (hj : j < 8) : am_Wp none m_G_strangers 1 0 0 0 [(0, .ref a), (1, .int (nI i)), (2, .int (nI j))] [] w (am_R (some (.int (nI (pu_st P C i j)))) w) := by
  refine wp_aload_n (q := 1) d_G_strangers_0 rfl rfl rfl ?_
  refine wp_get (q := 4) (k := 2) d_G_strangers_1 rfl ok_G (Nat.le_of_ble_eq_true rfl) fk_G_18 hG.1 rfl ?_
  refine wp_iload_n (q := 5) d_G_strangers_4 rfl rfl rfl ?_
  refine wp_ialoadN (q := 6) d_G_strangers_5 rfl hG.2.1 rfl hj (by decide) ?_
  refine wp_iload_n (q := 7) d_G_strangers_6 rfl rfl rfl ?_
  refine wp_cSN2r (q := 10) d_G_strangers_7 rfl bd_X_has lk_G_46 sm_X_has (Nat.le_of_ble_eq_true rfl) (Nat.le_of_ble_eq_true rfl) (Nat.le_of_ble_eq_true rfl) (c_has (Nat.lt_trans (hP j) (by decide)) (by omega)) ?_
  refine wp_if_ne (q := 13) (tgt := 15) d_G_strangers_10 (by decide) rfl (fun c10 => ?_) (fun c10 => ?_)
  · refine wp_aload_n (q := 16) d_G_strangers_15 rfl rfl rfl ?_
    refine wp_get (q := 19) (k := 2) d_G_strangers_16 rfl ok_G (Nat.le_of_ble_eq_true rfl) fk_G_18 hG.1 rfl ?_
    refine wp_iload_n (q := 20) d_G_strangers_19 rfl rfl rfl ?_
    refine wp_ialoadN (q := 21) d_G_strangers_20 rfl hG.2.1 rfl hj (by decide) ?_
    refine wp_iload_n (q := 22) d_G_strangers_21 rfl rfl rfl ?_
    refine wp_cSN1r (q := 25) d_G_strangers_22 rfl bd_X_bit lk_G_37 sm_X_bit (Nat.le_of_ble_eq_true rfl) (Nat.le_of_ble_eq_true rfl) (Nat.le_of_ble_eq_true rfl) (c_bit (by omega)) ?_
    refine wp_iconst (q := 26) (v := -1) d_G_strangers_25 rfl (by decide) ?_
    refine wp_ixor (q := 27) d_G_strangers_26 rfl ?_
    refine wp_iand (q := 28) d_G_strangers_27 rfl ?_
    refine wp_aload_n (q := 29) d_G_strangers_28 rfl rfl rfl ?_
    refine wp_iload_n (q := 30) d_G_strangers_29 rfl rfl rfl ?_
    refine wp_cV1r (q := 33) d_G_strangers_30 rfl bd_G_neighbours lk_G_50 im_G_neighbours se_G_neighbours rfl (Nat.le_of_ble_eq_true rfl) (Nat.le_of_ble_eq_true rfl) hG.1 (Nat.le_of_ble_eq_true rfl) (c_G_neighbours hG hi) ?_
    refine wp_iconst (q := 34) (v := -1) d_G_strangers_33 rfl (by decide) ?_
    refine wp_ixor (q := 35) d_G_strangers_34 rfl ?_
    refine wp_iand (q := 36) d_G_strangers_35 rfl ?_
    exact wp_ireturn rfl d_G_strangers_36 ⟨by rw [pu_not, pu_not]; unfold pu_st; rw [if_pos (pu_b1 c10)], rfl⟩
  · refine wp_iconst (q := 14) (v := 0) d_G_strangers_13 rfl (by decide) ?_
    exact wp_ireturn rfl d_G_strangers_14 ⟨by unfold pu_st; rw [if_neg (by rw [pu_b0.mp c10]; decide)]; rfl, rfl⟩
set_option maxHeartbeats 4000000 in
set_option maxRecDepth 100000 in
theorem c_G_join {w : am_W} {a p c n k : Nat} {P C : Nat → Nat} (hG : GI a p c n k P C w) {i j : Nat} (hi : i < 8) (hj : j < 8) (h1 : a ≠ p) (h2 : a ≠ c) (h3 : p ≠ c) : am_Wp none m_G_join 1 0 0 0 [(0, .ref a), (1, .int (nI i)), (2, .int (nI j))] [] w (fun v w1 => v = none ∧ am_fr [a, p, c] w w1 ∧ GI a p c n (k + 1) (pu_set P j (P j ||| 2 ^ i)) (pu_set C i (C i ||| 2 ^ j)) w1) := by
  refine wp_aload_n (q := 1) d_G_join_0 rfl rfl rfl ?_
  refine wp_get (q := 4) (k := 3) d_G_join_1 rfl ok_G (Nat.le_of_ble_eq_true rfl) fk_G_22 hG.1 rfl ?_
  refine wp_iload_n (q := 5) d_G_join_4 rfl rfl rfl ?_
  refine wp_dup2 (q := 6) d_G_join_5 rfl rfl rfl ?_
  refine wp_ialoadN (q := 7) d_G_join_6 rfl hG.2.2 rfl hi (by decide) ?_
  refine wp_iload_n (q := 8) d_G_join_7 rfl rfl rfl ?_
  refine wp_cSN1r (q := 11) d_G_join_8 rfl bd_X_bit lk_G_37 sm_X_bit (Nat.le_of_ble_eq_true rfl) (Nat.le_of_ble_eq_true rfl) (Nat.le_of_ble_eq_true rfl) (c_bit (by omega)) ?_
  refine wp_ior (q := 12) d_G_join_11 rfl ?_
  rw [pu_or]
  refine wp_iastoreN (q := 13) d_G_join_12 rfl hG.2.2 rfl hi (by decide) rfl ?_
  rw [pu_upd]
  have hG1 : GI a p c n k P (pu_set C i (C i ||| 2 ^ j)) (w.set c (am_ar 8 (pu_set C i (C i ||| 2 ^ j)))) := ⟨am_at_ne (Ne.symm h2) hG.1, am_at_ne (Ne.symm h3) hG.2.1, am_at_eq hG.2.2⟩
  have f1 : am_fr [a, p, c] w (w.set c (am_ar 8 (pu_set C i (C i ||| 2 ^ j)))) := am_fr.rf.put (by simp)
  generalize (w.set c (am_ar 8 (pu_set C i (C i ||| 2 ^ j)))) = w at hG1 f1 ⊢
  clear hG
  have hG := hG1
  refine wp_aload_n (q := 14) d_G_join_13 rfl rfl rfl ?_
  refine wp_get (q := 17) (k := 2) d_G_join_14 rfl ok_G (Nat.le_of_ble_eq_true rfl) fk_G_18 hG.1 rfl ?_
  refine wp_iload_n (q := 18) d_G_join_17 rfl rfl rfl ?_
  refine wp_dup2 (q := 19) d_G_join_18 rfl rfl rfl ?_
  refine wp_ialoadN (q := 20) d_G_join_19 rfl hG.2.1 rfl hj (by decide) ?_
  refine wp_iload_n (q := 21) d_G_join_20 rfl rfl rfl ?_
  refine wp_cSN1r (q := 24) d_G_join_21 rfl bd_X_bit lk_G_37 sm_X_bit (Nat.le_of_ble_eq_true rfl) (Nat.le_of_ble_eq_true rfl) (Nat.le_of_ble_eq_true rfl) (c_bit (by omega)) ?_
  refine wp_ior (q := 25) d_G_join_24 rfl ?_
  rw [pu_or]
  refine wp_iastoreN (q := 26) d_G_join_25 rfl hG.2.1 rfl hj (by decide) rfl ?_
  rw [pu_upd]
  have hG1 : GI a p c n k (pu_set P j (P j ||| 2 ^ i)) (pu_set C i (C i ||| 2 ^ j)) (w.set p (am_ar 8 (pu_set P j (P j ||| 2 ^ i)))) := ⟨am_at_ne (Ne.symm h1) hG.1, am_at_eq hG.2.1, am_at_ne h3 hG.2.2⟩
  have f1 := f1.put (a := p) (c := am_ar 8 (pu_set P j (P j ||| 2 ^ i))) (by simp)
  generalize (w.set p (am_ar 8 (pu_set P j (P j ||| 2 ^ i)))) = w at hG1 f1 ⊢
  clear hG
  have hG := hG1
  refine wp_aload_n (q := 27) d_G_join_26 rfl rfl rfl ?_
  refine wp_dup (q := 28) d_G_join_27 rfl rfl ?_
  refine wp_get (q := 31) (k := 1) d_G_join_28 rfl ok_G (Nat.le_of_ble_eq_true rfl) fk_G_15 hG.1 rfl ?_
  refine wp_iconst (q := 32) (v := 1) d_G_join_31 rfl (by decide) ?_
  refine wp_iadd (q := 33) d_G_join_32 rfl ?_
  rw [nI_1]
  refine wp_put (q := 36) (k := 1) d_G_join_33 rfl ok_G (Nat.le_of_ble_eq_true rfl) fk_G_15 rfl am_fit_i hG.1 (Nat.le_of_ble_eq_true rfl) rfl ?_
  exact wp_return rfl d_G_join_36 ⟨rfl, f1.put (by simp), am_at_eq hG.1, am_at_ne h1 hG.2.1, am_at_ne h2 hG.2.2⟩
set_option maxHeartbeats 4000000 in
set_option maxRecDepth 100000 in
theorem c_G_part {w : am_W} {a p c n k : Nat} {P C : Nat → Nat} (hG : GI a p c n k P C w) {i j : Nat} (hi : i < 8) (hj : j < 8) (hk : 1 ≤ k) (h1 : a ≠ p) (h2 : a ≠ c) (h3 : p ≠ c) : am_Wp none m_G_part 1 0 0 0 [(0, .ref a), (1, .int (nI i)), (2, .int (nI j))] [] w (fun v w1 => v = none ∧ am_fr [a, p, c] w w1 ∧ GI a p c n (k - 1) (pu_set P j (pu_dif (P j) (2 ^ i))) (pu_set C i (pu_dif (C i) (2 ^ j))) w1) := by
  refine wp_aload_n (q := 1) d_G_part_0 rfl rfl rfl ?_
  refine wp_get (q := 4) (k := 3) d_G_part_1 rfl ok_G (Nat.le_of_ble_eq_true rfl) fk_G_22 hG.1 rfl ?_
  refine wp_iload_n (q := 5) d_G_part_4 rfl rfl rfl ?_
  refine wp_dup2 (q := 6) d_G_part_5 rfl rfl rfl ?_
  refine wp_ialoadN (q := 7) d_G_part_6 rfl hG.2.2 rfl hi (by decide) ?_
  refine wp_iload_n (q := 8) d_G_part_7 rfl rfl rfl ?_
  refine wp_cSN1r (q := 11) d_G_part_8 rfl bd_X_bit lk_G_37 sm_X_bit (Nat.le_of_ble_eq_true rfl) (Nat.le_of_ble_eq_true rfl) (Nat.le_of_ble_eq_true rfl) (c_bit (by omega)) ?_
  refine wp_iconst (q := 12) (v := -1) d_G_part_11 rfl (by decide) ?_
  refine wp_ixor (q := 13) d_G_part_12 rfl ?_
  refine wp_iand (q := 14) d_G_part_13 rfl ?_
  rw [pu_not]
  refine wp_iastoreN (q := 15) d_G_part_14 rfl hG.2.2 rfl hi (by decide) rfl ?_
  rw [pu_upd]
  have hG1 : GI a p c n k P (pu_set C i (pu_dif (C i) (2 ^ j))) (w.set c (am_ar 8 (pu_set C i (pu_dif (C i) (2 ^ j))))) := ⟨am_at_ne (Ne.symm h2) hG.1, am_at_ne (Ne.symm h3) hG.2.1, am_at_eq hG.2.2⟩
  have f1 : am_fr [a, p, c] w (w.set c (am_ar 8 (pu_set C i (pu_dif (C i) (2 ^ j))))) := am_fr.rf.put (by simp)
  generalize (w.set c (am_ar 8 (pu_set C i (pu_dif (C i) (2 ^ j))))) = w at hG1 f1 ⊢
  clear hG
  have hG := hG1
  refine wp_aload_n (q := 16) d_G_part_15 rfl rfl rfl ?_
  refine wp_get (q := 19) (k := 2) d_G_part_16 rfl ok_G (Nat.le_of_ble_eq_true rfl) fk_G_18 hG.1 rfl ?_
  refine wp_iload_n (q := 20) d_G_part_19 rfl rfl rfl ?_
  refine wp_dup2 (q := 21) d_G_part_20 rfl rfl rfl ?_
  refine wp_ialoadN (q := 22) d_G_part_21 rfl hG.2.1 rfl hj (by decide) ?_
  refine wp_iload_n (q := 23) d_G_part_22 rfl rfl rfl ?_
  refine wp_cSN1r (q := 26) d_G_part_23 rfl bd_X_bit lk_G_37 sm_X_bit (Nat.le_of_ble_eq_true rfl) (Nat.le_of_ble_eq_true rfl) (Nat.le_of_ble_eq_true rfl) (c_bit (by omega)) ?_
  refine wp_iconst (q := 27) (v := -1) d_G_part_26 rfl (by decide) ?_
  refine wp_ixor (q := 28) d_G_part_27 rfl ?_
  refine wp_iand (q := 29) d_G_part_28 rfl ?_
  rw [pu_not]
  refine wp_iastoreN (q := 30) d_G_part_29 rfl hG.2.1 rfl hj (by decide) rfl ?_
  rw [pu_upd]
  have hG1 : GI a p c n k (pu_set P j (pu_dif (P j) (2 ^ i))) (pu_set C i (pu_dif (C i) (2 ^ j))) (w.set p (am_ar 8 (pu_set P j (pu_dif (P j) (2 ^ i))))) := ⟨am_at_ne (Ne.symm h1) hG.1, am_at_eq hG.2.1, am_at_ne h3 hG.2.2⟩
  have f1 := f1.put (a := p) (c := am_ar 8 (pu_set P j (pu_dif (P j) (2 ^ i)))) (by simp)
  generalize (w.set p (am_ar 8 (pu_set P j (pu_dif (P j) (2 ^ i))))) = w at hG1 f1 ⊢
  clear hG
  have hG := hG1
  refine wp_aload_n (q := 31) d_G_part_30 rfl rfl rfl ?_
  refine wp_dup (q := 32) d_G_part_31 rfl rfl ?_
  refine wp_get (q := 35) (k := 1) d_G_part_32 rfl ok_G (Nat.le_of_ble_eq_true rfl) fk_G_15 hG.1 rfl ?_
  refine wp_iconst (q := 36) (v := 1) d_G_part_35 rfl (by decide) ?_
  refine wp_isub (q := 37) d_G_part_36 rfl ?_
  rw [show (1 : Int32) = nI 1 from rfl, pk_sub hk]
  refine wp_put (q := 40) (k := 1) d_G_part_37 rfl ok_G (Nat.le_of_ble_eq_true rfl) fk_G_15 rfl am_fit_i hG.1 (Nat.le_of_ble_eq_true rfl) rfl ?_
  exact wp_return rfl d_G_part_40 ⟨rfl, f1.put (by simp), am_at_eq hG.1, am_at_ne h1 hG.2.1, am_at_ne h2 hG.2.2⟩
set_option maxHeartbeats 4000000 in
set_option maxRecDepth 100000 in
theorem c_G_empty {w : am_W} {a p c n k : Nat} {P C : Nat → Nat} (hG : GI a p c n k P C w) (h1 : a ≠ p) (h2 : a ≠ c) (h3 : p ≠ c) : am_Wp none m_G_empty 1 0 0 0 [(0, .ref a)] [] w (fun v w1 => v = none ∧ am_fr [a, p, c] w w1 ∧ GI a p c 0 0 (fun _ => 0) (fun _ => 0) w1) := by
  refine wp_aload_n (q := 1) d_G_empty_0 rfl rfl rfl ?_
  refine wp_iconst (q := 2) (v := 0) d_G_empty_1 rfl (by decide) ?_
  refine wp_put (q := 5) (k := 0) d_G_empty_2 rfl ok_G (Nat.le_of_ble_eq_true rfl) fk_G_9 rfl am_fit_i hG.1 (Nat.le_of_ble_eq_true rfl) rfl ?_
  have hG1 : GI a p c 0 k P C (w.set a (.inr (1, [.int (nI 0), .int (nI k), .ref p, .ref c]))) := ⟨am_at_eq hG.1, am_at_ne h1 hG.2.1, am_at_ne h2 hG.2.2⟩
  have f1 : am_fr [a, p, c] w (w.set a (.inr (1, [.int (nI 0), .int (nI k), .ref p, .ref c]))) := am_fr.rf.put (by simp)
  show am_Wp _ _ _ _ _ _ _ _ (w.set a (.inr (1, [.int (nI 0), .int (nI k), .ref p, .ref c]))) _
  generalize (w.set a (.inr (1, [.int (nI 0), .int (nI k), .ref p, .ref c]))) = w at hG1 f1 ⊢
  clear hG
  have hG := hG1
  refine wp_aload_n (q := 6) d_G_empty_5 rfl rfl rfl ?_
  refine wp_iconst (q := 7) (v := 0) d_G_empty_6 rfl (by decide) ?_
  refine wp_put (q := 10) (k := 1) d_G_empty_7 rfl ok_G (Nat.le_of_ble_eq_true rfl) fk_G_15 rfl am_fit_i hG.1 (Nat.le_of_ble_eq_true rfl) rfl ?_
  have hG1 : GI a p c 0 0 P C (w.set a (.inr (1, [.int (nI 0), .int (nI 0), .ref p, .ref c]))) := ⟨am_at_eq hG.1, am_at_ne h1 hG.2.1, am_at_ne h2 hG.2.2⟩
  have f1 := f1.put (a := a) (c := .inr (1, [.int (nI 0), .int (nI 0), .ref p, .ref c])) (by simp)
  show am_Wp _ _ _ _ _ _ _ _ (w.set a (.inr (1, [.int (nI 0), .int (nI 0), .ref p, .ref c]))) _
  generalize (w.set a (.inr (1, [.int (nI 0), .int (nI 0), .ref p, .ref c]))) = w at hG1 f1 ⊢
  clear hG
  have hG := hG1
  refine wp_aload_n (q := 11) d_G_empty_10 rfl rfl rfl ?_
  refine wp_get (q := 14) (k := 2) d_G_empty_11 rfl ok_G (Nat.le_of_ble_eq_true rfl) fk_G_18 hG.1 rfl ?_
  refine wp_iconst (q := 15) (v := 0) d_G_empty_14 rfl (by decide) ?_
  refine wp_cS2v (q := 18) d_G_empty_15 rfl bd_A_fillI lk_G_25 sm_A_fillI (Nat.le_of_ble_eq_true rfl) (Nat.le_of_ble_eq_true rfl) (Nat.le_of_ble_eq_true rfl) (c_fill hG.2.1 (by decide)) ?_
  have hG1 : GI a p c 0 0 (fun _ => 0) C (w.set p (am_ar 8 (fun _ => 0))) := ⟨am_at_ne (Ne.symm h1) hG.1, am_at_eq hG.2.1, am_at_ne h3 hG.2.2⟩
  have f1 := f1.put (a := p) (c := am_ar 8 (fun _ => 0)) (by simp)
  show am_Wp _ _ _ _ _ _ _ _ (w.set p (am_ar 8 (fun _ => 0))) _
  generalize (w.set p (am_ar 8 (fun _ => 0))) = w at hG1 f1 ⊢
  clear hG
  have hG := hG1
  refine wp_aload_n (q := 19) d_G_empty_18 rfl rfl rfl ?_
  refine wp_get (q := 22) (k := 3) d_G_empty_19 rfl ok_G (Nat.le_of_ble_eq_true rfl) fk_G_22 hG.1 rfl ?_
  refine wp_iconst (q := 23) (v := 0) d_G_empty_22 rfl (by decide) ?_
  refine wp_cS2v (q := 26) d_G_empty_23 rfl bd_A_fillI lk_G_25 sm_A_fillI (Nat.le_of_ble_eq_true rfl) (Nat.le_of_ble_eq_true rfl) (Nat.le_of_ble_eq_true rfl) (c_fill hG.2.2 (by decide)) ?_
  exact wp_return rfl d_G_empty_26 ⟨rfl, f1.put (by simp), am_at_ne (Ne.symm h2) hG.1, am_at_ne (Ne.symm h3) hG.2.1, am_at_eq hG.2.2⟩
end
section
/-! THE STATE (2): tables and walks; their numbers -/
theorem am_cpy8 {f g : Nat → Int32} {j : Nat} (hj : j < 8) : va_cpy f g (0 : Int32).toNatClampNeg (0 : Int32).toNatClampNeg (8 : Int32).toNatClampNeg j = f j := by
  have h0 : (0 : Int32).toNatClampNeg = 0 := by decide
  have h8 : (8 : Int32).toNatClampNeg = 8 := by decide
  rw [h0, h8]
  unfold va_cpy
  rw [if_pos ⟨Nat.zero_le _, by omega⟩]
  simp
/-- the tables: which are held (hd), at what (hv); eighths -/
def TI (hd hv : Nat) (E : Nat → Nat → Nat) (w : am_W) : Prop :=
  w[7]? = some (.inr (4, [.ref 8, .int (nI hd), .int (nI hv)])) ∧ w[8]? = some (.inl (3, 8, .inr (.inr (.inr (.inr (fun i => if i < 8 then some (9 + i) else none)))))) ∧ ∀ i, i < 8 → w[9 + i]? = some (am_ar 128 (E i))
theorem TI.at {D : List Nat} {w w1 : am_W} {hd hv : Nat} {E : Nat → Nat → Nat} (h : TI hd hv E w) (f : am_fr D w w1) (hD : ∀ i, i ∈ D → i < 7 ∨ 16 < i) : TI hd hv E w1 :=
  ⟨f.at (fun q => by have := hD _ q; omega) h.1, f.at (fun q => by have := hD _ q; omega) h.2.1, fun i hi => f.at (fun q => by have := hD _ q; omega) (h.2.2 i hi)⟩
/-- at what a place is held -/
def pu_ha (hd hv i : Nat) : Int32 := if hd.testBit i then pu_b (hv.testBit i) else -1
/-- the row in which the values v of the parents stand, of the first p places -/
def pu_rv (par v : Nat) : Nat → Nat
  | 0 => 0
  | p + 1 => if par.testBit p then pu_rv par v p ||| (if v.testBit p then 2 ^ pu_pop p par else 0) else pu_rv par v p
theorem pu_shb {k : Nat} (b : Bool) (hk : k < 31) : pu_b b <<< (nI k &&& 31) = nI (if b then 2 ^ k else 0) := by
  cases b with
  | false =>
    show (0 : Int32) <<< (nI k &&& 31) = nI 0
    have h := pk_shlN (n := 0) (nI k &&& 31) k (pu_sh k (by omega)) (by simp)
    rw [nI_0] at h
    rw [h]
    simp
  | true => exact pu_bit k hk
/-- the factor of one place in a weight -/
def pu_fac (P : Nat → Nat) (E : Nat → Nat → Nat) (i v : Nat) : Nat := if v.testBit i then E i (pu_rv (P i) v 8) else 8 - E i (pu_rv (P i) v 8)
def pu_pd (P : Nat → Nat) (E : Nat → Nat → Nat) (hd v : Nat) : Nat → Nat
  | 0 => 1
  | p + 1 => pu_pd P E hd v p * (if hd.testBit p then 8 else pu_fac P E p v)
/-- the weight of values of all places -/
def pu_wt (P : Nat → Nat) (E : Nat → Nat → Nat) (n hd hv v : Nat) : Nat := if (v ^^^ hv) &&& hd = 0 then pu_pd P E hd v n else 0
theorem pu_fac_le {P : Nat → Nat} {E : Nat → Nat → Nat} (hE : ∀ i j, E i j ≤ 8) (i v : Nat) : pu_fac P E i v ≤ 8 := by
  unfold pu_fac
  by_cases h : v.testBit i = true
  · rw [if_pos h]; exact hE _ _
  · rw [if_neg h]; omega
theorem pu_pd_le {P : Nat → Nat} {E : Nat → Nat → Nat} (hE : ∀ i j, E i j ≤ 8) (hd v : Nat) : ∀ p, pu_pd P E hd v p ≤ 8 ^ p
  | 0 => Nat.le_refl 1
  | p + 1 => by
    unfold pu_pd
    rw [Nat.pow_succ]
    refine Nat.mul_le_mul (pu_pd_le hE hd v p) ?_
    by_cases h : hd.testBit p = true
    · rw [if_pos h]; exact Nat.le_refl 8
    · rw [if_neg h]; exact pu_fac_le hE p v
theorem pu_pd_0 {P : Nat → Nat} {E : Nat → Nat → Nat} {hd v p : Nat} (h : pu_pd P E hd v p = 0) : ∀ k, pu_pd P E hd v (p + k) = 0
  | 0 => h
  | k + 1 => by
    show pu_pd P E hd v (p + k) * _ = 0
    rw [pu_pd_0 h k, Nat.zero_mul]
/-- new numbers g below i, old ones f from i on -/
def pu_mx (g : Nat → Nat) (f : Nat → Int32) (i : Nat) : Nat → Int32 := fun j => if j < i then nI (g j) else f j
theorem pu_mx_0 {g : Nat → Nat} {f : Nat → Int32} : pu_mx g f 0 = f := by funext j; simp [pu_mx]
theorem pu_mx_s {g : Nat → Nat} {f : Nat → Int32} {i : Nat} : upd (pu_mx g f i) i (nI (g i)) = pu_mx g f (i + 1) := by
  funext j
  unfold upd pu_mx
  by_cases h : j = i
  · simp [h]
  · by_cases h2 : j < i
    · simp [h, h2, show j < i + 1 by omega]
    · simp [h, h2, show ¬ j < i + 1 by omega]
/-- the arcs that count, into a place and out of it; ni: none into these, no: none out of these -/
def pu_gi (P : Nat → Nat) (ni no p : Nat) : Nat := if ni.testBit p then 0 else pu_dif (P p) no
def pu_go (C : Nat → Nat) (ni no p : Nat) : Nat := if no.testBit p then 0 else pu_dif (C p) ni
theorem pu_gi_lt {P : Nat → Nat} (h : ∀ i, P i < 256) (ni no p : Nat) : pu_gi P ni no p < 256 := by
  unfold pu_gi
  by_cases hb : ni.testBit p = true
  · rw [if_pos hb]; decide
  · rw [if_neg hb]; exact pu_dif_lt (h p)
/-- the walks' object: the rows into (18) and outOf (19), and six numbers -/
def VI (gi go : Nat → Nat) (w : am_W) : Prop := w[18]? = some (am_ar 8 gi) ∧ w[19]? = some (am_ar 8 go)
def VO (g m na ng sa sg : Nat) (w : am_W) : Prop := w[17]? = some (.inr (5, [.ref 18, .ref 19, .int (nI g), .int (nI m), .int (nI na), .int (nI ng), .int (nI sa), .int (nI sg)]))
/-- .. whatever stands there -/
def VS (w : am_W) : Prop := (∃ g m na ng sa sg : Int32, w[17]? = some (.inr (5, [.ref 18, .ref 19, .int g, .int m, .int na, .int ng, .int sa, .int sg]))) ∧ (∃ f : Nat → Int32, w[18]? = some (.inl (0, 8, .inl f))) ∧ ∃ f : Nat → Int32, w[19]? = some (.inl (0, 8, .inl f))
theorem VS.at {D : List Nat} {w w1 : am_W} (h : VS w) (f : am_fr D w w1) (h1 : 17 ∉ D) (h2 : 18 ∉ D) (h3 : 19 ∉ D) : VS w1 := by
  obtain ⟨⟨g, m, na, ng, sa, sg, e⟩, ⟨f1, e1⟩, f2, e2⟩ := h
  exact ⟨⟨g, m, na, ng, sa, sg, f.at h1 e⟩, ⟨f1, f.at h2 e1⟩, f2, f.at h3 e2⟩
theorem VI.at {D : List Nat} {w w1 : am_W} {gi go : Nat → Nat} (h : VI gi go w) (f : am_fr D w w1) (h2 : 18 ∉ D) (h3 : 19 ∉ D) : VI gi go w1 := ⟨f.at h2 h.1, f.at h3 h.2⟩
/-- one arc further: (now along, now against, seen along, seen against) -/
def pu_na (gi go : Nat → Nat) (g m na ng sa : Nat) : Nat := pu_dif (pu_un go (pu_dif ng g ||| pu_dif na g) 8) sa
def pu_ng (gi go : Nat → Nat) (g m na ng sg : Nat) : Nat := pu_dif (pu_un gi (pu_dif ng g ||| (na &&& m)) 8) sg
end
section
/-! CONTRACTS of Graph (2), Tables, Walks -/
set_option maxHeartbeats 4000000 in
set_option maxRecDepth 100000 in
theorem c_G_copy {w : am_W} {a p c n k : Nat} {P C : Nat → Nat} (hG : GI a p c n k P C w) {a2 p2 c2 n2 k2 : Nat} {P2 C2 : Nat → Nat} (hH : GI a2 p2 c2 n2 k2 P2 C2 w) (d1 : a ≠ p) (d2 : a ≠ c) (d3 : p ≠ c) (e1 : a2 ≠ a ∧ a2 ≠ p ∧ a2 ≠ c) (e2 : p2 ≠ a ∧ p2 ≠ p ∧ p2 ≠ c) (e3 : c2 ≠ a ∧ c2 ≠ p ∧ c2 ≠ c) : am_Wp none m_G_copy 1 0 0 0 [(0, .ref a), (1, .ref a2)] [] w (fun v w1 => v = none ∧ am_fr [a, p, c] w w1 ∧ GI a p c n2 k2 P2 C2 w1) := by
  suffices h : ∀ w0, am_fr [a, p, c] w0 w → am_Wp none m_G_copy 1 0 0 0 [(0, .ref a), (1, .ref a2)] [] w (fun v w1 => v = none ∧ am_fr [a, p, c] w0 w1 ∧ GI a p c n2 k2 P2 C2 w1) from h w am_fr.rf
  intro w0 f1
  refine wp_aload_n (q := 1) d_G_copy_0 rfl rfl rfl ?_
  refine wp_aload_n (q := 2) d_G_copy_1 rfl rfl rfl ?_
  refine wp_get (q := 5) (k := 0) d_G_copy_2 rfl ok_G (Nat.le_of_ble_eq_true rfl) fk_G_9 hH.1 rfl ?_
  refine wp_put (q := 8) (k := 0) d_G_copy_5 rfl ok_G (Nat.le_of_ble_eq_true rfl) fk_G_9 rfl am_fit_i hG.1 (Nat.le_of_ble_eq_true rfl) rfl ?_
  have hG1 : GI a p c n2 k P C (w.set a (.inr (1, [.int (nI n2), .int (nI k), .ref p, .ref c]))) := ⟨am_at_eq hG.1, am_at_ne d1 hG.2.1, am_at_ne d2 hG.2.2⟩
  have hH1 : GI a2 p2 c2 n2 k2 P2 C2 (w.set a (.inr (1, [.int (nI n2), .int (nI k), .ref p, .ref c]))) := ⟨am_at_ne (Ne.symm e1.1) hH.1, am_at_ne (Ne.symm e2.1) hH.2.1, am_at_ne (Ne.symm e3.1) hH.2.2⟩
  have f1 := f1.put (a := a) (c := (.inr (1, [.int (nI n2), .int (nI k), .ref p, .ref c]))) (by simp)
  show am_Wp _ _ _ _ _ _ _ _ (w.set a (.inr (1, [.int (nI n2), .int (nI k), .ref p, .ref c]))) _
  generalize (w.set a (.inr (1, [.int (nI n2), .int (nI k), .ref p, .ref c]))) = w at hG1 hH1 f1 ⊢
  clear hG hH
  have hG := hG1
  have hH := hH1
  refine wp_aload_n (q := 9) d_G_copy_8 rfl rfl rfl ?_
  refine wp_aload_n (q := 10) d_G_copy_9 rfl rfl rfl ?_
  refine wp_get (q := 13) (k := 1) d_G_copy_10 rfl ok_G (Nat.le_of_ble_eq_true rfl) fk_G_15 hH.1 rfl ?_
  refine wp_put (q := 16) (k := 1) d_G_copy_13 rfl ok_G (Nat.le_of_ble_eq_true rfl) fk_G_15 rfl am_fit_i hG.1 (Nat.le_of_ble_eq_true rfl) rfl ?_
  have hG1 : GI a p c n2 k2 P C (w.set a (.inr (1, [.int (nI n2), .int (nI k2), .ref p, .ref c]))) := ⟨am_at_eq hG.1, am_at_ne d1 hG.2.1, am_at_ne d2 hG.2.2⟩
  have hH1 : GI a2 p2 c2 n2 k2 P2 C2 (w.set a (.inr (1, [.int (nI n2), .int (nI k2), .ref p, .ref c]))) := ⟨am_at_ne (Ne.symm e1.1) hH.1, am_at_ne (Ne.symm e2.1) hH.2.1, am_at_ne (Ne.symm e3.1) hH.2.2⟩
  have f1 := f1.put (a := a) (c := (.inr (1, [.int (nI n2), .int (nI k2), .ref p, .ref c]))) (by simp)
  show am_Wp _ _ _ _ _ _ _ _ (w.set a (.inr (1, [.int (nI n2), .int (nI k2), .ref p, .ref c]))) _
  generalize (w.set a (.inr (1, [.int (nI n2), .int (nI k2), .ref p, .ref c]))) = w at hG1 hH1 f1 ⊢
  clear hG hH
  have hG := hG1
  have hH := hH1
  refine wp_aload_n (q := 17) d_G_copy_16 rfl rfl rfl ?_
  refine wp_get (q := 20) (k := 2) d_G_copy_17 rfl ok_G (Nat.le_of_ble_eq_true rfl) fk_G_18 hH.1 rfl ?_
  refine wp_iconst (q := 21) (v := 0) d_G_copy_20 rfl (by decide) ?_
  refine wp_aload_n (q := 22) d_G_copy_21 rfl rfl rfl ?_
  refine wp_get (q := 25) (k := 2) d_G_copy_22 rfl ok_G (Nat.le_of_ble_eq_true rfl) fk_G_18 hG.1 rfl ?_
  refine wp_iconst (q := 26) (v := 0) d_G_copy_25 rfl (by decide) ?_
  refine wp_bipush (q := 28) (v := 8) d_G_copy_26 rfl (by decide) ?_
  refine wp_copyi (q := 31) d_G_copy_28 rfl lk_G_31 na_S_arraycopy sm_S_arraycopy ini_S hH.2.1 hG.2.1 (by decide) (by decide) (by decide) (by decide) (by decide) (Nat.le_of_ble_eq_true rfl) (Nat.le_of_ble_eq_true rfl) rfl ?_
  refine wp_chg (g := fun i => nI (P2 i)) (am_at_eq hG.2.1) (fun j hj => am_cpy8 hj) rfl ?_
  rw [List.set_set]
  have hG1 : GI a p c n2 k2 P2 C (w.set p (am_ar 8 P2)) := ⟨am_at_ne (Ne.symm d1) hG.1, am_at_eq hG.2.1, am_at_ne d3 hG.2.2⟩
  have hH1 : GI a2 p2 c2 n2 k2 P2 C2 (w.set p (am_ar 8 P2)) := ⟨am_at_ne (Ne.symm e1.2.1) hH.1, am_at_ne (Ne.symm e2.2.1) hH.2.1, am_at_ne (Ne.symm e3.2.1) hH.2.2⟩
  have f1 := f1.put (a := p) (c := (am_ar 8 P2)) (by simp)
  show am_Wp _ _ _ _ _ _ _ _ (w.set p (am_ar 8 P2)) _
  generalize (w.set p (am_ar 8 P2)) = w at hG1 hH1 f1 ⊢
  clear hG hH
  have hG := hG1
  have hH := hH1
  refine wp_aload_n (q := 32) d_G_copy_31 rfl rfl rfl ?_
  refine wp_get (q := 35) (k := 3) d_G_copy_32 rfl ok_G (Nat.le_of_ble_eq_true rfl) fk_G_22 hH.1 rfl ?_
  refine wp_iconst (q := 36) (v := 0) d_G_copy_35 rfl (by decide) ?_
  refine wp_aload_n (q := 37) d_G_copy_36 rfl rfl rfl ?_
  refine wp_get (q := 40) (k := 3) d_G_copy_37 rfl ok_G (Nat.le_of_ble_eq_true rfl) fk_G_22 hG.1 rfl ?_
  refine wp_iconst (q := 41) (v := 0) d_G_copy_40 rfl (by decide) ?_
  refine wp_bipush (q := 43) (v := 8) d_G_copy_41 rfl (by decide) ?_
  refine wp_copyi (q := 46) d_G_copy_43 rfl lk_G_31 na_S_arraycopy sm_S_arraycopy ini_S hH.2.2 hG.2.2 (by decide) (by decide) (by decide) (by decide) (by decide) (Nat.le_of_ble_eq_true rfl) (Nat.le_of_ble_eq_true rfl) rfl ?_
  refine wp_chg (g := fun i => nI (C2 i)) (am_at_eq hG.2.2) (fun j hj => am_cpy8 hj) rfl ?_
  rw [List.set_set]
  exact wp_return rfl d_G_copy_46 ⟨rfl, f1.put (by simp), am_at_ne (Ne.symm d2) hG.1, am_at_ne (Ne.symm d3) hG.2.1, am_at_eq hG.2.2⟩
set_option maxHeartbeats 4000000 in
set_option maxRecDepth 100000 in
theorem c_G_tells_L2 {w : am_W} {a p c n k : Nat} {P C : Nat → Nat} (hG : GI a p c n k P C w) {a2 p2 c2 n2 k2 : Nat} {P2 C2 : Nat → Nat} (hH : GI a2 p2 c2 n2 k2 P2 C2 w) (hn : n ≤ 8) (hP : ∀ i, P i < 256) (hC : ∀ i, C i < 256) (hP2 : ∀ i, P2 i < 256) (hC2 : ∀ i, C2 i < 256) {i : Nat} (hi : i < n) (hout : (∀ q, q < n → pu_st P C q i = pu_st P2 C2 q i) → am_Wp none m_G_tellsTheSameAs 2 0 0 58 [(0, .ref a), (1, .ref a2), (2, .int (nI i)), (3, .int (nI n))] [] w (fun v w1 => ∃ b : Bool, v = some (.int (pu_b b)) ∧ (b = true ↔ ∀ x, x < n → (P x ||| C x = P2 x ||| C2 x ∧ ∀ q, q < n → pu_st P C q x = pu_st P2 C2 q x)) ∧ w1 = w)) : ∀ j, j ≤ n → (∀ q, q < j → pu_st P C q i = pu_st P2 C2 q i) → am_Wp none m_G_tellsTheSameAs 2 0 0 27 [(0, .ref a), (1, .ref a2), (2, .int (nI i)), (3, .int (nI j))] [] w (fun v w1 => ∃ b : Bool, v = some (.int (pu_b b)) ∧ (b = true ↔ ∀ x, x < n → (P x ||| C x = P2 x ||| C2 x ∧ ∀ q, q < n → pu_st P C q x = pu_st P2 C2 q x)) ∧ w1 = w) := by
  refine pu_up (P := fun j => (∀ q, q < j → pu_st P C q i = pu_st P2 C2 q i) → am_Wp none m_G_tellsTheSameAs 2 0 0 27 [(0, .ref a), (1, .ref a2), (2, .int (nI i)), (3, .int (nI j))] [] w (fun v w1 => ∃ b : Bool, v = some (.int (pu_b b)) ∧ (b = true ↔ ∀ x, x < n → (P x ||| C x = P2 x ||| C2 x ∧ ∀ q, q < n → pu_st P C q x = pu_st P2 C2 q x)) ∧ w1 = w)) ?_ ?_
  · intro kn
    refine wp_iload_n (q := 28) d_G_tellsTheSameAs_27 rfl rfl rfl ?_
    refine wp_aload_n (q := 29) d_G_tellsTheSameAs_28 rfl rfl rfl ?_
    refine wp_get (q := 32) (k := 0) d_G_tellsTheSameAs_29 rfl ok_G (Nat.le_of_ble_eq_true rfl) fk_G_9 hG.1 rfl ?_
    refine wp_icmp_ge (q := 35) (tgt := 58) d_G_tellsTheSameAs_32 (by decide) rfl (fun _ => ?_) (fun c32 => absurd (nI_le (Nat.le_refl n) (by omega)) c32)
    exact hout kn
  · intro j hj ih kn
    refine wp_iload_n (q := 28) d_G_tellsTheSameAs_27 rfl rfl rfl ?_
    refine wp_aload_n (q := 29) d_G_tellsTheSameAs_28 rfl rfl rfl ?_
    refine wp_get (q := 32) (k := 0) d_G_tellsTheSameAs_29 rfl ok_G (Nat.le_of_ble_eq_true rfl) fk_G_9 hG.1 rfl ?_
    refine wp_icmp_ge (q := 35) (tgt := 58) d_G_tellsTheSameAs_32 (by decide) rfl (fun c32 => absurd c32 (nI_ge hj (by omega))) (fun _ => ?_)
    refine wp_aload_n (q := 36) d_G_tellsTheSameAs_35 rfl rfl rfl ?_
    refine wp_iload_n (q := 37) d_G_tellsTheSameAs_36 rfl rfl rfl ?_
    refine wp_iload_n (q := 38) d_G_tellsTheSameAs_37 rfl rfl rfl ?_
    refine wp_cV2r (q := 41) d_G_tellsTheSameAs_38 rfl bd_G_strangers lk_G_53 im_G_strangers se_G_strangers rfl (Nat.le_of_ble_eq_true rfl) (Nat.le_of_ble_eq_true rfl) hG.1 (Nat.le_of_ble_eq_true rfl) (c_G_strangers hG hP (by omega) (by omega)) ?_
    refine wp_aload_n (q := 42) d_G_tellsTheSameAs_41 rfl rfl rfl ?_
    refine wp_iload_n (q := 43) d_G_tellsTheSameAs_42 rfl rfl rfl ?_
    refine wp_iload_n (q := 44) d_G_tellsTheSameAs_43 rfl rfl rfl ?_
    refine wp_cV2r (q := 47) d_G_tellsTheSameAs_44 rfl bd_G_strangers lk_G_53 im_G_strangers se_G_strangers rfl (Nat.le_of_ble_eq_true rfl) (Nat.le_of_ble_eq_true rfl) hH.1 (Nat.le_of_ble_eq_true rfl) (c_G_strangers hH hP2 (by omega) (by omega)) ?_
    refine wp_icmp_eq (q := 50) (tgt := 52) d_G_tellsTheSameAs_47 (by decide) rfl (fun c47 => ?_) (fun c47 => ?_)
    · refine wp_inc1 (q := 55) d_G_tellsTheSameAs_52 rfl rfl (nI_1 _) (Nat.le_of_ble_eq_true rfl) rfl ?_
      refine wp_goto (tgt := 27) d_G_tellsTheSameAs_55 (by decide) ?_
      exact ih (fun q hq => by
        rcases (show q < j ∨ q = j by omega) with h | rfl
        · exact kn q h
        · exact pu_nI_inj (Nat.lt_trans (pu_st_lt hP) (by decide)) (Nat.lt_trans (pu_st_lt hP2) (by decide)) c47)
    · refine wp_iconst (q := 51) (v := 0) d_G_tellsTheSameAs_50 rfl (by decide) ?_
      exact wp_zreturn rfl rfl d_G_tellsTheSameAs_51 ⟨false, rfl, ⟨fun h => absurd h (by decide), fun h => absurd (congrArg nI ((h i hi).2 j hj)) c47⟩, rfl⟩
set_option maxHeartbeats 4000000 in
set_option maxRecDepth 100000 in
theorem c_G_tells_L {w : am_W} {a p c n k : Nat} {P C : Nat → Nat} (hG : GI a p c n k P C w) {a2 p2 c2 n2 k2 : Nat} {P2 C2 : Nat → Nat} (hH : GI a2 p2 c2 n2 k2 P2 C2 w) (hn : n ≤ 8) (hP : ∀ i, P i < 256) (hC : ∀ i, C i < 256) (hP2 : ∀ i, P2 i < 256) (hC2 : ∀ i, C2 i < 256) : ∀ i, i ≤ n → (∀ x, x < i → (P x ||| C x = P2 x ||| C2 x ∧ ∀ q, q < n → pu_st P C q x = pu_st P2 C2 q x)) → am_Wp none m_G_tellsTheSameAs 2 0 0 2 [(0, .ref a), (1, .ref a2), (2, .int (nI i))] [] w (fun v w1 => ∃ b : Bool, v = some (.int (pu_b b)) ∧ (b = true ↔ ∀ x, x < n → (P x ||| C x = P2 x ||| C2 x ∧ ∀ q, q < n → pu_st P C q x = pu_st P2 C2 q x)) ∧ w1 = w) := by
  refine pu_up (P := fun i => (∀ x, x < i → (P x ||| C x = P2 x ||| C2 x ∧ ∀ q, q < n → pu_st P C q x = pu_st P2 C2 q x)) → am_Wp none m_G_tellsTheSameAs 2 0 0 2 [(0, .ref a), (1, .ref a2), (2, .int (nI i))] [] w (fun v w1 => ∃ b : Bool, v = some (.int (pu_b b)) ∧ (b = true ↔ ∀ x, x < n → (P x ||| C x = P2 x ||| C2 x ∧ ∀ q, q < n → pu_st P C q x = pu_st P2 C2 q x)) ∧ w1 = w)) ?_ ?_
  · intro kn
    refine wp_iload_n (q := 3) d_G_tellsTheSameAs_2 rfl rfl rfl ?_
    refine wp_aload_n (q := 4) d_G_tellsTheSameAs_3 rfl rfl rfl ?_
    refine wp_get (q := 7) (k := 0) d_G_tellsTheSameAs_4 rfl ok_G (Nat.le_of_ble_eq_true rfl) fk_G_9 hG.1 rfl ?_
    refine wp_icmp_ge (q := 10) (tgt := 64) d_G_tellsTheSameAs_7 (by decide) rfl (fun _ => ?_) (fun c7 => absurd (nI_le (Nat.le_refl n) (by omega)) c7)
    refine wp_iconst (q := 65) (v := 1) d_G_tellsTheSameAs_64 rfl (by decide) ?_
    exact wp_zreturn rfl rfl d_G_tellsTheSameAs_65 ⟨true, rfl, ⟨fun _ => kn, fun _ => rfl⟩, rfl⟩
  · intro i hi ih kn
    refine wp_iload_n (q := 3) d_G_tellsTheSameAs_2 rfl rfl rfl ?_
    refine wp_aload_n (q := 4) d_G_tellsTheSameAs_3 rfl rfl rfl ?_
    refine wp_get (q := 7) (k := 0) d_G_tellsTheSameAs_4 rfl ok_G (Nat.le_of_ble_eq_true rfl) fk_G_9 hG.1 rfl ?_
    refine wp_icmp_ge (q := 10) (tgt := 64) d_G_tellsTheSameAs_7 (by decide) rfl (fun c7 => absurd c7 (nI_ge hi (by omega))) (fun _ => ?_)
    refine wp_aload_n (q := 11) d_G_tellsTheSameAs_10 rfl rfl rfl ?_
    refine wp_iload_n (q := 12) d_G_tellsTheSameAs_11 rfl rfl rfl ?_
    refine wp_cV1r (q := 15) d_G_tellsTheSameAs_12 rfl bd_G_neighbours lk_G_50 im_G_neighbours se_G_neighbours rfl (Nat.le_of_ble_eq_true rfl) (Nat.le_of_ble_eq_true rfl) hG.1 (Nat.le_of_ble_eq_true rfl) (c_G_neighbours hG (by omega)) ?_
    refine wp_aload_n (q := 16) d_G_tellsTheSameAs_15 rfl rfl rfl ?_
    refine wp_iload_n (q := 17) d_G_tellsTheSameAs_16 rfl rfl rfl ?_
    refine wp_cV1r (q := 20) d_G_tellsTheSameAs_17 rfl bd_G_neighbours lk_G_50 im_G_neighbours se_G_neighbours rfl (Nat.le_of_ble_eq_true rfl) (Nat.le_of_ble_eq_true rfl) hH.1 (Nat.le_of_ble_eq_true rfl) (c_G_neighbours hH (by omega)) ?_
    refine wp_icmp_eq (q := 23) (tgt := 25) d_G_tellsTheSameAs_20 (by decide) rfl (fun c20 => ?_) (fun c20 => ?_)
    · refine wp_iconst (q := 26) (v := 0) d_G_tellsTheSameAs_25 rfl (by decide) ?_
      refine wp_istore_n (q := 27) d_G_tellsTheSameAs_26 rfl rfl (Nat.le_of_ble_eq_true rfl) rfl ?_
      have e : P i ||| C i = P2 i ||| C2 i := pu_nI_inj (Nat.lt_trans (pu_or_lt (hP i) (hC i)) (by decide)) (Nat.lt_trans (pu_or_lt (hP2 i) (hC2 i)) (by decide)) c20
      refine c_G_tells_L2 hG hH hn hP hC hP2 hC2 hi (fun kq => ?_) 0 (Nat.zero_le _) (fun q h => absurd h (Nat.not_lt_zero _))
      refine wp_inc1 (q := 61) d_G_tellsTheSameAs_58 rfl rfl (nI_1 _) (Nat.le_of_ble_eq_true rfl) rfl ?_
      refine wp_goto (tgt := 2) d_G_tellsTheSameAs_61 (by decide) ?_
      refine wp_lo [(0, .ref a), (1, .ref a2), (2, .int (nI (i + 1)))] ⟨rfl, rfl, rfl, trivial⟩ ?_
      exact ih (fun x hx => by
        rcases (show x < i ∨ x = i by omega) with h | rfl
        · exact kn x h
        · exact ⟨e, kq⟩)
    · refine wp_iconst (q := 24) (v := 0) d_G_tellsTheSameAs_23 rfl (by decide) ?_
      exact wp_zreturn rfl rfl d_G_tellsTheSameAs_24 ⟨false, rfl, ⟨fun h => absurd h (by decide), fun h => absurd (congrArg nI (h i hi).1) c20⟩, rfl⟩
set_option maxHeartbeats 4000000 in
set_option maxRecDepth 100000 in
theorem c_G_tells {w : am_W} {a p c n k : Nat} {P C : Nat → Nat} (hG : GI a p c n k P C w) {a2 p2 c2 n2 k2 : Nat} {P2 C2 : Nat → Nat} (hH : GI a2 p2 c2 n2 k2 P2 C2 w) (hn : n ≤ 8) (hP : ∀ i, P i < 256) (hC : ∀ i, C i < 256) (hP2 : ∀ i, P2 i < 256) (hC2 : ∀ i, C2 i < 256) : am_Wp none m_G_tellsTheSameAs 2 0 0 0 [(0, .ref a), (1, .ref a2)] [] w (fun v w1 => ∃ b : Bool, v = some (.int (pu_b b)) ∧ (b = true ↔ ∀ x, x < n → (P x ||| C x = P2 x ||| C2 x ∧ ∀ q, q < n → pu_st P C q x = pu_st P2 C2 q x)) ∧ w1 = w) := by
  refine wp_iconst (q := 1) (v := 0) d_G_tellsTheSameAs_0 rfl (by decide) ?_
  refine wp_istore_n (q := 2) d_G_tellsTheSameAs_1 rfl rfl (Nat.le_of_ble_eq_true rfl) rfl ?_
  exact c_G_tells_L hG hH hn hP hC hP2 hC2 0 (Nat.zero_le _) (fun x h => absurd h (Nat.not_lt_zero _))
set_option maxHeartbeats 4000000 in
set_option maxRecDepth 100000 in
theorem c_T_startRows {w : am_W} {hd hv : Nat} {E : Nat → Nat → Nat} (hT : TI hd hv E w) {i : Nat} (hi : i < 8) : am_Wp none m_T_startRows 1 0 0 0 [(0, .ref 7), (1, .int (nI i))] [] w (am_R none (w.set (9 + i) (am_ar 128 (fun _ => 4)))) := by
  refine wp_aload_n (q := 1) d_T_startRows_0 rfl rfl rfl ?_
  refine wp_get (q := 4) (k := 0) d_T_startRows_1 rfl ok_T (Nat.le_of_ble_eq_true rfl) fk_T_11 hT.1 rfl ?_
  refine wp_iload_n (q := 5) d_T_startRows_4 rfl rfl rfl ?_
  refine wp_aaloadN (q := 6) d_T_startRows_5 rfl hT.2.1 rfl hi (by decide) (if_pos hi) ?_
  refine wp_iconst (q := 7) (v := 4) d_T_startRows_6 rfl (by decide) ?_
  refine wp_cS2v (q := 10) d_T_startRows_7 rfl bd_A_fillI lk_T_23 sm_A_fillI (Nat.le_of_ble_eq_true rfl) (Nat.le_of_ble_eq_true rfl) (Nat.le_of_ble_eq_true rfl) (c_fill (hT.2.2 i hi) (by decide)) ?_
  exact wp_return rfl d_T_startRows_10 ⟨rfl, rfl⟩
set_option maxHeartbeats 4000000 in
set_option maxRecDepth 100000 in
theorem c_T_releaseAll {w : am_W} {hd hv : Nat} {E : Nat → Nat → Nat} (hT : TI hd hv E w) : am_Wp none m_T_releaseAll 0 0 0 0 [(0, .ref 7)] [] w (am_R none (w.set 7 (.inr (4, [.ref 8, .int (nI 0), .int (nI 0)])))) := by
  refine wp_aload_n (q := 1) d_T_releaseAll_0 rfl rfl rfl ?_
  refine wp_iconst (q := 2) (v := 0) d_T_releaseAll_1 rfl (by decide) ?_
  refine wp_put (q := 5) (k := 1) d_T_releaseAll_2 rfl ok_T (Nat.le_of_ble_eq_true rfl) fk_T_16 rfl am_fit_i hT.1 (Nat.le_of_ble_eq_true rfl) rfl ?_
  refine wp_aload_n (q := 6) d_T_releaseAll_5 rfl rfl rfl ?_
  refine wp_iconst (q := 7) (v := 0) d_T_releaseAll_6 rfl (by decide) ?_
  refine wp_put (q := 10) (k := 2) d_T_releaseAll_7 rfl ok_T (Nat.le_of_ble_eq_true rfl) fk_T_20 rfl am_fit_i (am_at_eq hT.1) (Nat.le_of_ble_eq_true rfl) rfl ?_
  exact wp_return rfl d_T_releaseAll_10 ⟨rfl, by rw [List.set_set]; rfl⟩
set_option maxHeartbeats 4000000 in
set_option maxRecDepth 100000 in
theorem c_T_heldAt {w : am_W} {hd hv : Nat} {E : Nat → Nat → Nat} (hT : TI hd hv E w) (h1 : hd < 256) (h2 : hv < 256) {i : Nat} (hi : i < 8) : am_Wp none m_T_heldAt 1 0 0 0 [(0, .ref 7), (1, .int (nI i))] [] w (am_R (some (.int (pu_ha hd hv i))) w) := by
  refine wp_aload_n (q := 1) d_T_heldAt_0 rfl rfl rfl ?_
  refine wp_get (q := 4) (k := 1) d_T_heldAt_1 rfl ok_T (Nat.le_of_ble_eq_true rfl) fk_T_16 hT.1 rfl ?_
  refine wp_iload_n (q := 5) d_T_heldAt_4 rfl rfl rfl ?_
  refine wp_cSN2r (q := 8) d_T_heldAt_5 rfl bd_X_has lk_T_33 sm_X_has (Nat.le_of_ble_eq_true rfl) (Nat.le_of_ble_eq_true rfl) (Nat.le_of_ble_eq_true rfl) (c_has (by omega) (by omega)) ?_
  refine wp_if_ne (q := 11) (tgt := 13) d_T_heldAt_8 (by decide) rfl (fun c8 => ?_) (fun c8 => ?_)
  · refine wp_aload_n (q := 14) d_T_heldAt_13 rfl rfl rfl ?_
    refine wp_get (q := 17) (k := 2) d_T_heldAt_14 rfl ok_T (Nat.le_of_ble_eq_true rfl) fk_T_20 hT.1 rfl ?_
    refine wp_iload_n (q := 18) d_T_heldAt_17 rfl rfl rfl ?_
    refine wp_ishr (q := 19) d_T_heldAt_18 rfl ?_
    refine wp_iconst (q := 20) (v := 1) d_T_heldAt_19 rfl (by decide) ?_
    refine wp_iand (q := 21) d_T_heldAt_20 rfl ?_
    exact wp_ireturn rfl d_T_heldAt_21 ⟨by rw [pu_has (by omega) (by omega)]; unfold pu_ha; rw [if_pos (pu_b1 c8)], rfl⟩
  · refine wp_iconst (q := 12) (v := -1) d_T_heldAt_11 rfl (by decide) ?_
    exact wp_ireturn rfl d_T_heldAt_12 ⟨by unfold pu_ha; rw [if_neg (by rw [pu_b0.mp c8]; decide)], rfl⟩
set_option maxHeartbeats 4000000 in
set_option maxRecDepth 100000 in
theorem c_T_setHeld0 {w : am_W} {hd hv : Nat} {E : Nat → Nat → Nat} (hT : TI hd hv E w) {i : Nat} (hi : i < 8) : am_Wp none m_T_setHeld 1 0 0 0 [(0, .ref 7), (1, .int (nI i)), (2, .int (-1))] [] w (am_R none (w.set 7 (.inr (4, [.ref 8, .int (nI (pu_dif hd (2 ^ i))), .int (nI (pu_dif hv (2 ^ i)))])))) := by
  refine wp_aload_n (q := 1) d_T_setHeld_0 rfl rfl rfl ?_
  refine wp_dup (q := 2) d_T_setHeld_1 rfl rfl ?_
  refine wp_get (q := 5) (k := 1) d_T_setHeld_2 rfl ok_T (Nat.le_of_ble_eq_true rfl) fk_T_16 hT.1 rfl ?_
  refine wp_iload_n (q := 6) d_T_setHeld_5 rfl rfl rfl ?_
  refine wp_cSN1r (q := 9) d_T_setHeld_6 rfl bd_X_bit lk_T_29 sm_X_bit (Nat.le_of_ble_eq_true rfl) (Nat.le_of_ble_eq_true rfl) (Nat.le_of_ble_eq_true rfl) (c_bit (by omega)) ?_
  refine wp_iconst (q := 10) (v := -1) d_T_setHeld_9 rfl (by decide) ?_
  refine wp_ixor (q := 11) d_T_setHeld_10 rfl ?_
  refine wp_iand (q := 12) d_T_setHeld_11 rfl ?_
  rw [pu_not]
  refine wp_put (q := 15) (k := 1) d_T_setHeld_12 rfl ok_T (Nat.le_of_ble_eq_true rfl) fk_T_16 rfl am_fit_i hT.1 (Nat.le_of_ble_eq_true rfl) rfl ?_
  refine wp_aload_n (q := 16) d_T_setHeld_15 rfl rfl rfl ?_
  refine wp_dup (q := 17) d_T_setHeld_16 rfl rfl ?_
  refine wp_get (q := 20) (k := 2) d_T_setHeld_17 rfl ok_T (Nat.le_of_ble_eq_true rfl) fk_T_20 (am_at_eq hT.1) rfl ?_
  refine wp_iload_n (q := 21) d_T_setHeld_20 rfl rfl rfl ?_
  refine wp_cSN1r (q := 24) d_T_setHeld_21 rfl bd_X_bit lk_T_29 sm_X_bit (Nat.le_of_ble_eq_true rfl) (Nat.le_of_ble_eq_true rfl) (Nat.le_of_ble_eq_true rfl) (c_bit (by omega)) ?_
  refine wp_iconst (q := 25) (v := -1) d_T_setHeld_24 rfl (by decide) ?_
  refine wp_ixor (q := 26) d_T_setHeld_25 rfl ?_
  refine wp_iand (q := 27) d_T_setHeld_26 rfl ?_
  rw [pu_not]
  refine wp_put (q := 30) (k := 2) d_T_setHeld_27 rfl ok_T (Nat.le_of_ble_eq_true rfl) fk_T_20 rfl am_fit_i (am_at_eq hT.1) (Nat.le_of_ble_eq_true rfl) rfl ?_
  refine wp_iload_n (q := 31) d_T_setHeld_30 rfl rfl rfl ?_
  refine wp_iconst (q := 32) (v := -1) d_T_setHeld_31 rfl (by decide) ?_
  refine wp_icmp_eq (q := 35) (tgt := 60) d_T_setHeld_32 (by decide) rfl (fun _ => ?_) (fun c32 => absurd rfl c32)
  exact wp_return rfl d_T_setHeld_60 ⟨rfl, by rw [List.set_set]; rfl⟩
set_option maxHeartbeats 4000000 in
set_option maxRecDepth 100000 in
theorem c_T_setHeld1 {w : am_W} {hd hv : Nat} {E : Nat → Nat → Nat} (hT : TI hd hv E w) {i : Nat} (hi : i < 8) (b : Bool) : am_Wp none m_T_setHeld 1 0 0 0 [(0, .ref 7), (1, .int (nI i)), (2, .int (pu_b b))] [] w (am_R none (w.set 7 (.inr (4, [.ref 8, .int (nI (pu_dif hd (2 ^ i) ||| 2 ^ i)), .int (nI (pu_dif hv (2 ^ i) ||| (if b then 2 ^ i else 0)))])))) := by
  refine wp_aload_n (q := 1) d_T_setHeld_0 rfl rfl rfl ?_
  refine wp_dup (q := 2) d_T_setHeld_1 rfl rfl ?_
  refine wp_get (q := 5) (k := 1) d_T_setHeld_2 rfl ok_T (Nat.le_of_ble_eq_true rfl) fk_T_16 hT.1 rfl ?_
  refine wp_iload_n (q := 6) d_T_setHeld_5 rfl rfl rfl ?_
  refine wp_cSN1r (q := 9) d_T_setHeld_6 rfl bd_X_bit lk_T_29 sm_X_bit (Nat.le_of_ble_eq_true rfl) (Nat.le_of_ble_eq_true rfl) (Nat.le_of_ble_eq_true rfl) (c_bit (by omega)) ?_
  refine wp_iconst (q := 10) (v := -1) d_T_setHeld_9 rfl (by decide) ?_
  refine wp_ixor (q := 11) d_T_setHeld_10 rfl ?_
  refine wp_iand (q := 12) d_T_setHeld_11 rfl ?_
  rw [pu_not]
  refine wp_put (q := 15) (k := 1) d_T_setHeld_12 rfl ok_T (Nat.le_of_ble_eq_true rfl) fk_T_16 rfl am_fit_i hT.1 (Nat.le_of_ble_eq_true rfl) rfl ?_
  refine wp_aload_n (q := 16) d_T_setHeld_15 rfl rfl rfl ?_
  refine wp_dup (q := 17) d_T_setHeld_16 rfl rfl ?_
  refine wp_get (q := 20) (k := 2) d_T_setHeld_17 rfl ok_T (Nat.le_of_ble_eq_true rfl) fk_T_20 (am_at_eq hT.1) rfl ?_
  refine wp_iload_n (q := 21) d_T_setHeld_20 rfl rfl rfl ?_
  refine wp_cSN1r (q := 24) d_T_setHeld_21 rfl bd_X_bit lk_T_29 sm_X_bit (Nat.le_of_ble_eq_true rfl) (Nat.le_of_ble_eq_true rfl) (Nat.le_of_ble_eq_true rfl) (c_bit (by omega)) ?_
  refine wp_iconst (q := 25) (v := -1) d_T_setHeld_24 rfl (by decide) ?_
  refine wp_ixor (q := 26) d_T_setHeld_25 rfl ?_
  refine wp_iand (q := 27) d_T_setHeld_26 rfl ?_
  rw [pu_not]
  refine wp_put (q := 30) (k := 2) d_T_setHeld_27 rfl ok_T (Nat.le_of_ble_eq_true rfl) fk_T_20 rfl am_fit_i (am_at_eq hT.1) (Nat.le_of_ble_eq_true rfl) rfl ?_
  refine wp_iload_n (q := 31) d_T_setHeld_30 rfl rfl rfl ?_
  refine wp_iconst (q := 32) (v := -1) d_T_setHeld_31 rfl (by decide) ?_
  refine wp_icmp_eq (q := 35) (tgt := 60) d_T_setHeld_32 (by decide) rfl (fun c32 => absurd c32 (by cases b <;> decide)) (fun _ => ?_)
  refine wp_aload_n (q := 36) d_T_setHeld_35 rfl rfl rfl ?_
  refine wp_dup (q := 37) d_T_setHeld_36 rfl rfl ?_
  refine wp_get (q := 40) (k := 1) d_T_setHeld_37 rfl ok_T (Nat.le_of_ble_eq_true rfl) fk_T_16 (am_at_eq (am_at_eq hT.1)) rfl ?_
  refine wp_iload_n (q := 41) d_T_setHeld_40 rfl rfl rfl ?_
  refine wp_cSN1r (q := 44) d_T_setHeld_41 rfl bd_X_bit lk_T_29 sm_X_bit (Nat.le_of_ble_eq_true rfl) (Nat.le_of_ble_eq_true rfl) (Nat.le_of_ble_eq_true rfl) (c_bit (by omega)) ?_
  refine wp_ior (q := 45) d_T_setHeld_44 rfl ?_
  rw [pu_or]
  refine wp_put (q := 48) (k := 1) d_T_setHeld_45 rfl ok_T (Nat.le_of_ble_eq_true rfl) fk_T_16 rfl am_fit_i (am_at_eq (am_at_eq hT.1)) (Nat.le_of_ble_eq_true rfl) rfl ?_
  refine wp_aload_n (q := 49) d_T_setHeld_48 rfl rfl rfl ?_
  refine wp_dup (q := 50) d_T_setHeld_49 rfl rfl ?_
  refine wp_get (q := 53) (k := 2) d_T_setHeld_50 rfl ok_T (Nat.le_of_ble_eq_true rfl) fk_T_20 (am_at_eq (am_at_eq (am_at_eq hT.1))) rfl ?_
  refine wp_iload_n (q := 54) d_T_setHeld_53 rfl rfl rfl ?_
  refine wp_iload_n (q := 55) d_T_setHeld_54 rfl rfl rfl ?_
  refine wp_ishl (q := 56) d_T_setHeld_55 rfl ?_
  refine wp_ior (q := 57) d_T_setHeld_56 rfl ?_
  rw [pu_shb b (by omega), pu_or]
  refine wp_put (q := 60) (k := 2) d_T_setHeld_57 rfl ok_T (Nat.le_of_ble_eq_true rfl) fk_T_20 rfl am_fit_i (am_at_eq (am_at_eq (am_at_eq hT.1))) (Nat.le_of_ble_eq_true rfl) rfl ?_
  exact wp_return rfl d_T_setHeld_60 ⟨rfl, by rw [List.set_set, List.set_set, List.set_set]; rfl⟩
set_option maxHeartbeats 4000000 in
set_option maxRecDepth 100000 in
theorem c_T_rowIn_L {w : am_W} {x v : Nat} (hx : x < 256) (hv : v < 256) : ∀ i, i ≤ 8 → am_Wp none m_T_rowIn 1 0 0 7 [(0, .int (nI x)), (1, .int (nI v)), (2, .int (nI (pu_rv x v i))), (3, .int (nI (pu_pop i x))), (4, .int (nI i))] [] w (am_R (some (.int (nI (pu_rv x v 8)))) w) := by
  refine pu_up (P := fun i => am_Wp none m_T_rowIn 1 0 0 7 [(0, .int (nI x)), (1, .int (nI v)), (2, .int (nI (pu_rv x v i))), (3, .int (nI (pu_pop i x))), (4, .int (nI i))] [] w (am_R (some (.int (nI (pu_rv x v 8)))) w)) ?_ ?_
  · show am_Wp _ _ _ _ _ _ _ _ _ _
    refine wp_iload (q := 9) d_T_rowIn_7 rfl rfl ?_
    refine wp_bipush (q := 11) (v := 8) d_T_rowIn_9 rfl (by decide) ?_
    refine wp_icmp_ge (q := 14) (tgt := 43) d_T_rowIn_11 (by decide) rfl (fun _ => ?_) (fun c11 => absurd (nI_le (a := 8) (b := 8) (by decide) (by decide)) c11)
    refine wp_iload_n (q := 44) d_T_rowIn_43 rfl rfl rfl ?_
    exact wp_ireturn rfl d_T_rowIn_44 ⟨rfl, rfl⟩
  · intro i hi ih
    have ih : am_Wp _ _ _ _ _ _ _ _ _ _ := ih
    show am_Wp _ _ _ _ _ _ _ _ _ _
    refine wp_iload (q := 9) d_T_rowIn_7 rfl rfl ?_
    refine wp_bipush (q := 11) (v := 8) d_T_rowIn_9 rfl (by decide) ?_
    refine wp_icmp_ge (q := 14) (tgt := 43) d_T_rowIn_11 (by decide) rfl (fun c11 => absurd c11 (nI_ge (b := 8) hi (by decide))) (fun _ => ?_)
    refine wp_iload_n (q := 15) d_T_rowIn_14 rfl rfl rfl ?_
    refine wp_iload (q := 17) d_T_rowIn_15 rfl rfl ?_
    refine wp_cSN2r (q := 20) d_T_rowIn_17 rfl bd_X_has lk_T_33 sm_X_has (Nat.le_of_ble_eq_true rfl) (Nat.le_of_ble_eq_true rfl) (Nat.le_of_ble_eq_true rfl) (c_has (by omega) (by omega)) ?_
    refine wp_if_eq (q := 23) (tgt := 37) d_T_rowIn_20 (by decide) rfl (fun c20 => ?_) (fun c20 => ?_)
    · refine wp_inc1 (q := 40) d_T_rowIn_37 rfl rfl (nI_1 _) (Nat.le_of_ble_eq_true rfl) rfl ?_
      refine wp_goto (tgt := 7) d_T_rowIn_40 (by decide) ?_
      have e1 : pu_rv x v (i + 1) = pu_rv x v i := by simp [pu_rv, pu_b0.mp c20]
      have e2 : pu_pop (i + 1) x = pu_pop i x := by simp [pu_pop, pu_b0.mp c20]
      rw [e1, e2] at ih
      exact ih
    · refine wp_iload_n (q := 24) d_T_rowIn_23 rfl rfl rfl ?_
      refine wp_iload_n (q := 25) d_T_rowIn_24 rfl rfl rfl ?_
      refine wp_iload (q := 27) d_T_rowIn_25 rfl rfl ?_
      refine wp_ishr (q := 28) d_T_rowIn_27 rfl ?_
      refine wp_iconst (q := 29) (v := 1) d_T_rowIn_28 rfl (by decide) ?_
      refine wp_iand (q := 30) d_T_rowIn_29 rfl ?_
      refine wp_iload_n (q := 31) d_T_rowIn_30 rfl rfl rfl ?_
      refine wp_ishl (q := 32) d_T_rowIn_31 rfl ?_
      refine wp_ior (q := 33) d_T_rowIn_32 rfl ?_
      rw [pu_has (by omega) (by omega), pu_shb _ (by have := pu_pop_le i x; omega), pu_or]
      refine wp_istore_n (q := 34) d_T_rowIn_33 rfl rfl (Nat.le_of_ble_eq_true rfl) rfl ?_
      refine wp_inc1 (q := 37) d_T_rowIn_34 rfl rfl (nI_1 _) (Nat.le_of_ble_eq_true rfl) rfl ?_
      refine wp_inc1 (q := 40) d_T_rowIn_37 rfl rfl (nI_1 _) (Nat.le_of_ble_eq_true rfl) rfl ?_
      refine wp_goto (tgt := 7) d_T_rowIn_40 (by decide) ?_
      have e1 : pu_rv x v (i + 1) = pu_rv x v i ||| (if v.testBit i then 2 ^ pu_pop i x else 0) := by simp [pu_rv, pu_b1 c20]
      have e2 : pu_pop (i + 1) x = pu_pop i x + 1 := by simp [pu_pop, pu_b1 c20]
      rw [e1, e2] at ih
      exact ih
set_option maxHeartbeats 4000000 in
set_option maxRecDepth 100000 in
theorem c_T_rowIn {w : am_W} {x v : Nat} (hx : x < 256) (hv : v < 256) : am_Wp none m_T_rowIn 1 0 0 0 [(0, .int (nI x)), (1, .int (nI v))] [] w (am_R (some (.int (nI (pu_rv x v 8)))) w) := by
  refine wp_iconst (q := 1) (v := 0) d_T_rowIn_0 rfl (by decide) ?_
  refine wp_istore_n (q := 2) d_T_rowIn_1 rfl rfl (Nat.le_of_ble_eq_true rfl) rfl ?_
  refine wp_iconst (q := 3) (v := 0) d_T_rowIn_2 rfl (by decide) ?_
  refine wp_istore_n (q := 4) d_T_rowIn_3 rfl rfl (Nat.le_of_ble_eq_true rfl) rfl ?_
  refine wp_iconst (q := 5) (v := 0) d_T_rowIn_4 rfl (by decide) ?_
  refine wp_istore (q := 7) d_T_rowIn_5 rfl (Nat.le_of_ble_eq_true rfl) rfl ?_
  exact c_T_rowIn_L hx hv 0 (Nat.zero_le _)
end
section
/-! THE STATE (3): walks' ends, margins -/
theorem lg_cmp0 {x y : Int64} : lg_cmp x y = 0 ↔ x = y := by
  unfold lg_cmp
  by_cases h1 : y < x
  · rw [if_pos h1]
    constructor
    · intro h; exact absurd h (by decide)
    · intro h; rw [h] at h1; exact absurd h1 (by simp)
  · rw [if_neg h1]
    by_cases h2 : x = y
    · rw [if_pos h2]; exact ⟨fun _ => h2, fun _ => rfl⟩
    · rw [if_neg h2]
      constructor
      · intro h; exact absurd h (by decide)
      · intro h; exact absurd h h2
/-- the shortest open walk to b: k more arcs may be tried, j is the next number -/
def pu_sw (gi go : Nat → Nat) (g m b : Nat) : Nat → Nat → Nat → Nat → Nat → Nat → Int32
  | 0, _, _, _, _, _ => -1
  | k + 1, j, na, ng, sa, sg => if (na ||| ng).testBit b then nI j else pu_sw gi go g m b k (j + 1) (pu_na gi go g m na ng sa) (pu_ng gi go g m na ng sg) (sa ||| pu_na gi go g m na ng sa) (sg ||| pu_ng gi go g m na ng sg)
/-- all places that open walks reach -/
def pu_re (gi go : Nat → Nat) (g m : Nat) : Nat → Nat → Nat → Nat → Nat → Nat
  | 0, _, _, sa, sg => sa ||| sg
  | k + 1, na, ng, sa, sg => if na ||| ng = 0 then sa ||| sg else pu_re gi go g m k (pu_na gi go g m na ng sa) (pu_ng gi go g m na ng sg) (sa ||| pu_na gi go g m na ng sa) (sg ||| pu_ng gi go g m na ng sg)
theorem pu_na_lt {gi go : Nat → Nat} (h : ∀ i, go i < 256) (g m na ng sa : Nat) : pu_na gi go g m na ng sa < 256 := pu_dif_lt (pu_un_lt (n := 8) h 8)
theorem pu_ng_lt {gi go : Nat → Nat} (h : ∀ i, gi i < 256) (g m na ng sg : Nat) : pu_ng gi go g m na ng sg < 256 := pu_dif_lt (pu_un_lt (n := 8) h 8)
theorem pu_cl_lt {g : Nat → Nat} {n : Nat} (hg : ∀ i, g i < 256) : ∀ {r a : Nat}, a < 256 → pu_cl g n r a < 256
  | 0, _, h => h
  | r + 1, a, h => by
    unfold pu_cl
    by_cases e : a ||| pu_un g a n = a
    · rw [if_pos e]; exact h
    · rw [if_neg e]; exact pu_cl_lt hg (pu_or_lt h (pu_un_lt (n := 8) hg n))
theorem pu_and_lt {a b : Nat} (h : a < 256) : a &&& b < 256 := Nat.lt_of_le_of_lt Nat.and_le_left h
/-- a margin: its object a, its row b; the set s; the sums -/
def MI (a b s : Nat) (S : Nat → Nat) (w : am_W) : Prop := w[a]? = some (.inr (3, [.int (nI s), .ref b])) ∧ w[b]? = some (.inl (1, 256, .inr (.inl (fun j => lN (S j)))))
theorem MI.at {D : List Nat} {w w1 : am_W} {a b s : Nat} {S : Nat → Nat} (h : MI a b s S w) (f : am_fr D w w1) (ha : a ∉ D) (hb : b ∉ D) : MI a b s S w1 := ⟨f.at ha h.1, f.at hb h.2⟩
/-- .. whatever stands there -/
def MS (a b : Nat) (w : am_W) : Prop := (∃ s : Int32, w[a]? = some (.inr (3, [.int s, .ref b]))) ∧ ∃ f : Nat → Int64, w[b]? = some (.inl (1, 256, .inr (.inl f)))
theorem MS.at {D : List Nat} {w w1 : am_W} {a b : Nat} (h : MS a b w) (f : am_fr D w w1) (ha : a ∉ D) (hb : b ∉ D) : MS a b w1 := by
  obtain ⟨⟨s, e1⟩, g, e2⟩ := h
  exact ⟨⟨s, f.at ha e1⟩, g, f.at hb e2⟩
theorem MI.s {a b s : Nat} {S : Nat → Nat} {w : am_W} (h : MI a b s S w) : MS a b w := ⟨⟨_, h.1⟩, _, h.2⟩
/-- a sum grows -/
def pu_ad (S : Nat → Nat) (j x : Nat) : Nat → Nat := fun i => if i = j then S i + x else S i
theorem pu_ad_u {S : Nat → Nat} {j x : Nat} : vp_updL (fun i => lN (S i)) j (lN (S j) + lN x) = fun i => lN (pu_ad S j x i) := by
  funext i
  unfold vp_updL pu_ad
  by_cases h : i = j
  · subst h
    simp [lN_add]
  · simp [h]
end
section
/-! CONTRACTS of Tables (2), Walks, Margin -/
set_option maxHeartbeats 4000000 in
set_option maxRecDepth 100000 in
theorem c_T_factor {w : am_W} {hd hv : Nat} {E : Nat → Nat → Nat} (hT : TI hd hv E w) {a p c n k : Nat} {P C : Nat → Nat} (hG : GI a p c n k P C w) (hP : ∀ i, P i < 256) (hE : ∀ i j, E i j ≤ 8) {i v : Nat} (hi : i < 8) (hv0 : v < 256) (hrow : pu_rv (P i) v 8 < 128) : am_Wp none m_T_factor 2 0 0 0 [(0, .ref 7), (1, .ref a), (2, .int (nI i)), (3, .int (nI v))] [] w (am_R (some (.int (nI (pu_fac P E i v)))) w) := by
  refine wp_aload_n (q := 1) d_T_factor_0 rfl rfl rfl ?_
  refine wp_get (q := 4) (k := 0) d_T_factor_1 rfl ok_T (Nat.le_of_ble_eq_true rfl) fk_T_11 hT.1 rfl ?_
  refine wp_iload_n (q := 5) d_T_factor_4 rfl rfl rfl ?_
  refine wp_aaloadN (q := 6) d_T_factor_5 rfl hT.2.1 rfl hi (by decide) (if_pos hi) ?_
  refine wp_aload_n (q := 7) d_T_factor_6 rfl rfl rfl ?_
  refine wp_getN (q := 10) (k := 2) d_T_factor_7 rfl ok_G (Nat.le_of_ble_eq_true rfl) fk_T_48 hG.1 rfl ?_
  refine wp_iload_n (q := 11) d_T_factor_10 rfl rfl rfl ?_
  refine wp_ialoadN (q := 12) d_T_factor_11 rfl hG.2.1 rfl hi (by decide) ?_
  refine wp_iload_n (q := 13) d_T_factor_12 rfl rfl rfl ?_
  refine wp_cS2r (q := 16) d_T_factor_13 rfl bd_T_rowIn lk_T_52 sm_T_rowIn (Nat.le_of_ble_eq_true rfl) (Nat.le_of_ble_eq_true rfl) (Nat.le_of_ble_eq_true rfl) (c_T_rowIn (hP i) hv0) ?_
  refine wp_ialoadN (q := 17) d_T_factor_16 rfl (hT.2.2 i hi) rfl hrow (by decide) ?_
  refine wp_istore (q := 19) d_T_factor_17 rfl (Nat.le_of_ble_eq_true rfl) rfl ?_
  refine wp_iload_n (q := 20) d_T_factor_19 rfl rfl rfl ?_
  refine wp_iload_n (q := 21) d_T_factor_20 rfl rfl rfl ?_
  refine wp_cSN2r (q := 24) d_T_factor_21 rfl bd_X_has lk_T_33 sm_X_has (Nat.le_of_ble_eq_true rfl) (Nat.le_of_ble_eq_true rfl) (Nat.le_of_ble_eq_true rfl) (c_has (by omega) (by omega)) ?_
  refine wp_if_eq (q := 27) (tgt := 32) d_T_factor_24 (by decide) rfl (fun c24 => ?_) (fun c24 => ?_)
  · refine wp_bipush (q := 34) (v := 8) d_T_factor_32 rfl (by decide) ?_
    refine wp_iload (q := 36) d_T_factor_34 rfl rfl ?_
    refine wp_isub (q := 37) d_T_factor_36 rfl ?_
    exact wp_ireturn rfl d_T_factor_37 ⟨by rw [show (8 : Int32) = nI 8 from rfl, pk_sub (hE _ _)]; unfold pu_fac; rw [if_neg (by rw [pu_b0.mp c24]; decide)], rfl⟩
  · refine wp_iload (q := 29) d_T_factor_27 rfl rfl ?_
    refine wp_goto (tgt := 37) d_T_factor_29 (by decide) ?_
    exact wp_ireturn rfl d_T_factor_37 ⟨by unfold pu_fac; rw [if_pos (pu_b1 c24)], rfl⟩
set_option maxHeartbeats 4000000 in
set_option maxRecDepth 100000 in
theorem c_T_product_L {w : am_W} {hd hv : Nat} {E : Nat → Nat → Nat} (hT : TI hd hv E w) {a p c n k : Nat} {P C : Nat → Nat} (hG : GI a p c n k P C w) (hn : n ≤ 8) (h1 : hd < 256) (h2 : hv < 256) (hP : ∀ i, P i < 256) (hE : ∀ i j, E i j ≤ 8) {v : Nat} (hv0 : v < 256) (hrow : ∀ i, i < n → pu_rv (P i) v 8 < 128) (h0 : (v ^^^ hv) &&& hd = 0) : ∀ i, i ≤ n → am_Wp none m_T_product 3 0 0 21 [(0, .ref 7), (1, .ref a), (2, .int (nI v)), (3, .long (lN (pu_pd P E hd v i))), (5, .int (nI i))] [] w (am_R (some (.long (lN (pu_wt P E n hd hv v)))) w) := by
  refine pu_up (P := fun i => am_Wp none m_T_product 3 0 0 21 [(0, .ref 7), (1, .ref a), (2, .int (nI v)), (3, .long (lN (pu_pd P E hd v i))), (5, .int (nI i))] [] w (am_R (some (.long (lN (pu_wt P E n hd hv v)))) w)) ?_ ?_
  · show am_Wp _ _ _ _ _ _ _ _ _ _
    refine wp_iload (q := 23) d_T_product_21 rfl rfl ?_
    refine wp_aload_n (q := 24) d_T_product_23 rfl rfl rfl ?_
    refine wp_getN (q := 27) (k := 0) d_T_product_24 rfl ok_G (Nat.le_of_ble_eq_true rfl) fk_T_37 hG.1 rfl ?_
    refine wp_icmp_ge (q := 30) (tgt := 72) d_T_product_27 (by decide) rfl (fun _ => ?_) (fun c27 => absurd (nI_le (Nat.le_refl n) (by omega)) c27)
    refine wp_lload_n (q := 73) d_T_product_72 rfl rfl rfl ?_
    exact wp_lreturn rfl d_T_product_73 ⟨by unfold pu_wt; rw [if_pos h0], rfl⟩
  · intro i hi ih
    have ih : am_Wp _ _ _ _ _ _ _ _ _ _ := ih
    show am_Wp _ _ _ _ _ _ _ _ _ _
    refine wp_iload (q := 23) d_T_product_21 rfl rfl ?_
    refine wp_aload_n (q := 24) d_T_product_23 rfl rfl rfl ?_
    refine wp_getN (q := 27) (k := 0) d_T_product_24 rfl ok_G (Nat.le_of_ble_eq_true rfl) fk_T_37 hG.1 rfl ?_
    refine wp_icmp_ge (q := 30) (tgt := 72) d_T_product_27 (by decide) rfl (fun c27 => absurd c27 (nI_ge hi (by omega))) (fun _ => ?_)
    refine wp_lload_n (q := 31) d_T_product_30 rfl rfl rfl ?_
    refine wp_lconst (q := 32) (v := 0) d_T_product_31 rfl (by decide) ?_
    refine wp_lcmp (q := 33) d_T_product_32 rfl ?_
    refine wp_if_eq (q := 36) (tgt := 72) d_T_product_33 (by decide) rfl (fun c33 => ?_) (fun c33 => ?_)
    · have hb := pu_pd_le (P := P) hE hd v i
      have hb2 : 8 ^ i ≤ 8 ^ 8 := Nat.pow_le_pow_right (by decide) (by omega)
      have hz : pu_pd P E hd v i = 0 := (pk_lEQ (by omega) (by decide)).mp ((lg_cmp0.mp c33).trans (show (0 : Int64) = lN 0 from rfl))
      have hz2 : pu_pd P E hd v n = 0 := by rw [show n = i + (n - i) by omega]; exact pu_pd_0 hz _
      refine wp_lload_n (q := 73) d_T_product_72 rfl rfl rfl ?_
      exact wp_lreturn rfl d_T_product_73 ⟨by unfold pu_wt; rw [if_pos h0, hz, hz2], rfl⟩
    · refine wp_lload_n (q := 37) d_T_product_36 rfl rfl rfl ?_
      refine wp_aload_n (q := 38) d_T_product_37 rfl rfl rfl ?_
      refine wp_get (q := 41) (k := 1) d_T_product_38 rfl ok_T (Nat.le_of_ble_eq_true rfl) fk_T_16 hT.1 rfl ?_
      refine wp_iload (q := 43) d_T_product_41 rfl rfl ?_
      refine wp_cSN2r (q := 46) d_T_product_43 rfl bd_X_has lk_T_33 sm_X_has (Nat.le_of_ble_eq_true rfl) (Nat.le_of_ble_eq_true rfl) (Nat.le_of_ble_eq_true rfl) (c_has (by omega) (by omega)) ?_
      refine wp_if_eq (q := 49) (tgt := 55) d_T_product_46 (by decide) rfl (fun c46 => ?_) (fun c46 => ?_)
      · refine wp_aload_n (q := 56) d_T_product_55 rfl rfl rfl ?_
        refine wp_aload_n (q := 57) d_T_product_56 rfl rfl rfl ?_
        refine wp_iload (q := 59) d_T_product_57 rfl rfl ?_
        refine wp_iload_n (q := 60) d_T_product_59 rfl rfl rfl ?_
        refine wp_cV3r (q := 63) d_T_product_60 rfl bd_T_factor lk_T_44 im_T_factor se_T_factor rfl (Nat.le_of_ble_eq_true rfl) (Nat.le_of_ble_eq_true rfl) hT.1 (Nat.le_of_ble_eq_true rfl) (c_T_factor hT hG hP hE (by omega) hv0 (hrow i hi)) ?_
        refine wp_i2l (q := 64) d_T_product_63 rfl ?_
        refine wp_lmul (q := 65) d_T_product_64 rfl ?_
        rw [nI_l (by have := pu_fac_le (P := P) hE i v; omega), lN_mul]
        refine wp_lstore_n (q := 66) d_T_product_65 rfl rfl (Nat.le_of_ble_eq_true rfl) rfl ?_
        refine wp_inc1 (q := 69) d_T_product_66 rfl rfl (nI_1 _) (Nat.le_of_ble_eq_true rfl) rfl ?_
        refine wp_goto (tgt := 21) d_T_product_69 (by decide) ?_
        have e : pu_pd P E hd v (i + 1) = pu_pd P E hd v i * pu_fac P E i v := by simp [pu_pd, pu_b0.mp c46]
        rw [e] at ih
        exact ih
      · refine wp_ldc2 (q := 52) d_T_product_49 rfl kk_T_42 ?_
        refine wp_goto (tgt := 64) d_T_product_52 (by decide) ?_
        refine wp_lmul (q := 65) d_T_product_64 rfl ?_
        rw [show (8 : Int64) = lN 8 from rfl, lN_mul]
        refine wp_lstore_n (q := 66) d_T_product_65 rfl rfl (Nat.le_of_ble_eq_true rfl) rfl ?_
        refine wp_inc1 (q := 69) d_T_product_66 rfl rfl (nI_1 _) (Nat.le_of_ble_eq_true rfl) rfl ?_
        refine wp_goto (tgt := 21) d_T_product_69 (by decide) ?_
        have e : pu_pd P E hd v (i + 1) = pu_pd P E hd v i * 8 := by simp [pu_pd, pu_b1 c46]
        rw [e] at ih
        exact ih
set_option maxHeartbeats 4000000 in
set_option maxRecDepth 100000 in
theorem c_T_product {w : am_W} {hd hv : Nat} {E : Nat → Nat → Nat} (hT : TI hd hv E w) {a p c n k : Nat} {P C : Nat → Nat} (hG : GI a p c n k P C w) (hn : n ≤ 8) (h1 : hd < 256) (h2 : hv < 256) (hP : ∀ i, P i < 256) (hE : ∀ i j, E i j ≤ 8) {v : Nat} (hv0 : v < 256) (hrow : ∀ i, i < n → pu_rv (P i) v 8 < 128) : am_Wp none m_T_product 3 0 0 0 [(0, .ref 7), (1, .ref a), (2, .int (nI v))] [] w (am_R (some (.long (lN (pu_wt P E n hd hv v)))) w) := by
  refine wp_iload_n (q := 1) d_T_product_0 rfl rfl rfl ?_
  refine wp_aload_n (q := 2) d_T_product_1 rfl rfl rfl ?_
  refine wp_get (q := 5) (k := 2) d_T_product_2 rfl ok_T (Nat.le_of_ble_eq_true rfl) fk_T_20 hT.1 rfl ?_
  refine wp_ixor (q := 6) d_T_product_5 rfl ?_
  refine wp_aload_n (q := 7) d_T_product_6 rfl rfl rfl ?_
  refine wp_get (q := 10) (k := 1) d_T_product_7 rfl ok_T (Nat.le_of_ble_eq_true rfl) fk_T_16 hT.1 rfl ?_
  refine wp_iand (q := 11) d_T_product_10 rfl ?_
  refine wp_if_eq (q := 14) (tgt := 16) d_T_product_11 (by decide) rfl (fun c11 => ?_) (fun c11 => ?_)
  · rw [pu_xor, pu_and] at c11
    have h0 : (v ^^^ hv) &&& hd = 0 := pu_nI_inj (Nat.lt_of_le_of_lt Nat.and_le_right (by omega)) (by decide) (c11.trans nI_0.symm)
    refine wp_lconst (q := 17) (v := 1) d_T_product_16 rfl (by decide) ?_
    refine wp_lstore_n (q := 18) d_T_product_17 rfl rfl (Nat.le_of_ble_eq_true rfl) rfl ?_
    refine wp_iconst (q := 19) (v := 0) d_T_product_18 rfl (by decide) ?_
    refine wp_istore (q := 21) d_T_product_19 rfl (Nat.le_of_ble_eq_true rfl) rfl ?_
    exact c_T_product_L hT hG hn h1 h2 hP hE hv0 hrow h0 0 (Nat.zero_le _)
  · rw [pu_xor, pu_and] at c11
    have h0 : ¬ (v ^^^ hv) &&& hd = 0 := fun e => c11 (by rw [e]; exact nI_0)
    refine wp_lconst (q := 15) (v := 0) d_T_product_14 rfl (by decide) ?_
    exact wp_lreturn rfl d_T_product_15 ⟨by unfold pu_wt; rw [if_neg h0]; rfl, rfl⟩
set_option maxHeartbeats 4000000 in
set_option maxRecDepth 100000 in
theorem c_V_lookAt_L {w : am_W} {x1 x2 x3 x4 x5 x6 : Int32} (hV : w[17]? = some (.inr (5, [.ref 18, .ref 19, .int x1, .int x2, .int x3, .int x4, .int x5, .int x6]))) {a p c n k : Nat} {P C : Nat → Nat} (hG : GI a p c n k P C w) (ha : a < 17) (hp : p < 17) (hc0 : c < 17) {ni no : Nat} (h1 : ni < 256) (h2 : no < 256) {f1 f2 : Nat → Int32} : ∀ i, i ≤ 8 → ∀ w1, am_fr [18, 19] w w1 → w1[18]? = some (.inl (0, 8, .inl (pu_mx (pu_gi P ni no) f1 i))) → w1[19]? = some (.inl (0, 8, .inl (pu_mx (pu_go C ni no) f2 i))) → am_Wp none m_V_lookAt 1 0 0 3 [(0, .ref 17), (1, .ref a), (2, .int (nI ni)), (3, .int (nI no)), (4, .int (nI i))] [] w1 (fun v w1 => v = none ∧ am_fr [18, 19] w w1 ∧ VI (pu_gi P ni no) (pu_go C ni no) w1) := by
  refine pu_up (P := fun i => ∀ w1, am_fr [18, 19] w w1 → w1[18]? = some (.inl (0, 8, .inl (pu_mx (pu_gi P ni no) f1 i))) → w1[19]? = some (.inl (0, 8, .inl (pu_mx (pu_go C ni no) f2 i))) → am_Wp none m_V_lookAt 1 0 0 3 [(0, .ref 17), (1, .ref a), (2, .int (nI ni)), (3, .int (nI no)), (4, .int (nI i))] [] w1 (fun v w1 => v = none ∧ am_fr [18, 19] w w1 ∧ VI (pu_gi P ni no) (pu_go C ni no) w1)) ?_ ?_
  · intro w1 fr h18 h19
    have hG1 : GI a p c n k P C w1 := hG.at fr (by simp; omega) (by simp; omega) (by simp; omega)
    have hV1 := fr.at (by decide) hV
    refine wp_iload (q := 5) d_V_lookAt_3 rfl rfl ?_
    refine wp_bipush (q := 7) (v := 8) d_V_lookAt_5 rfl (by decide) ?_
    refine wp_icmp_ge (q := 10) (tgt := 78) d_V_lookAt_7 (by decide) rfl (fun _ => ?_) (fun c7 => absurd (nI_le (a := 8) (b := 8) (by decide) (by decide)) c7)
    refine wp_chg (g := fun j => nI (pu_gi P ni no j)) h18 (fun j hj => by simp [pu_mx, hj]) rfl ?_
    refine wp_chg (g := fun j => nI (pu_go C ni no j)) (am_at_ne (by decide) h19) (fun j hj => by simp [pu_mx, hj]) rfl ?_
    exact wp_return rfl d_V_lookAt_78 ⟨rfl, (fr.put (by simp)).put (by simp), am_at_ne (by decide) (am_at_eq h18), am_at_eq (am_at_ne (by decide) h19)⟩
  · intro i hi ih w1 fr h18 h19
    have hG1 : GI a p c n k P C w1 := hG.at fr (by simp; omega) (by simp; omega) (by simp; omega)
    have hV1 := fr.at (by decide) hV
    refine wp_iload (q := 5) d_V_lookAt_3 rfl rfl ?_
    refine wp_bipush (q := 7) (v := 8) d_V_lookAt_5 rfl (by decide) ?_
    refine wp_icmp_ge (q := 10) (tgt := 78) d_V_lookAt_7 (by decide) rfl (fun c7 => absurd c7 (nI_ge (b := 8) hi (by decide))) (fun _ => ?_)
    refine wp_aload_n (q := 11) d_V_lookAt_10 rfl rfl rfl ?_
    refine wp_get (q := 14) (k := 0) d_V_lookAt_11 rfl ok_V (Nat.le_of_ble_eq_true rfl) fk_V_9 hV1 rfl ?_
    refine wp_iload (q := 16) d_V_lookAt_14 rfl rfl ?_
    refine wp_iload_n (q := 17) d_V_lookAt_16 rfl rfl rfl ?_
    refine wp_iload (q := 19) d_V_lookAt_17 rfl rfl ?_
    refine wp_cSN2r (q := 22) d_V_lookAt_19 rfl bd_X_has lk_V_37 sm_X_has (Nat.le_of_ble_eq_true rfl) (Nat.le_of_ble_eq_true rfl) (Nat.le_of_ble_eq_true rfl) (c_has (by omega) (by omega)) ?_
    refine wp_if_eq (q := 25) (tgt := 29) d_V_lookAt_22 (by decide) rfl (fun c22 => ?_) (fun c22 => ?_)
    · refine wp_aload_n (q := 30) d_V_lookAt_29 rfl rfl rfl ?_
      refine wp_getN (q := 33) (k := 2) d_V_lookAt_30 rfl ok_G (Nat.le_of_ble_eq_true rfl) fk_V_41 hG1.1 rfl ?_
      refine wp_iload (q := 35) d_V_lookAt_33 rfl rfl ?_
      refine wp_ialoadN (q := 36) d_V_lookAt_35 rfl hG1.2.1 rfl hi (by decide) ?_
      refine wp_iload_n (q := 37) d_V_lookAt_36 rfl rfl rfl ?_
      refine wp_iconst (q := 38) (v := -1) d_V_lookAt_37 rfl (by decide) ?_
      refine wp_ixor (q := 39) d_V_lookAt_38 rfl ?_
      refine wp_iand (q := 40) d_V_lookAt_39 rfl ?_
      have e18 : nI (P i) &&& (nI no ^^^ (-1)) = nI (pu_gi P ni no i) := by unfold pu_gi; rw [if_neg (by rw [pu_b0.mp c22]; decide), pu_not]
      rw [e18]
      refine wp_iastoreN (q := 41) d_V_lookAt_40 rfl h18 rfl hi (by decide) rfl ?_
      refine wp_aload_n (q := 42) d_V_lookAt_41 rfl rfl rfl ?_
      refine wp_get (q := 45) (k := 1) d_V_lookAt_42 rfl ok_V (Nat.le_of_ble_eq_true rfl) fk_V_15 (am_at_ne (by decide) hV1) rfl ?_
      refine wp_iload (q := 47) d_V_lookAt_45 rfl rfl ?_
      refine wp_iload_n (q := 48) d_V_lookAt_47 rfl rfl rfl ?_
      refine wp_iload (q := 50) d_V_lookAt_48 rfl rfl ?_
      refine wp_cSN2r (q := 53) d_V_lookAt_50 rfl bd_X_has lk_V_37 sm_X_has (Nat.le_of_ble_eq_true rfl) (Nat.le_of_ble_eq_true rfl) (Nat.le_of_ble_eq_true rfl) (c_has (by omega) (by omega)) ?_
      refine wp_if_eq (q := 56) (tgt := 60) d_V_lookAt_53 (by decide) rfl (fun c53 => ?_) (fun c53 => ?_)
      · refine wp_aload_n (q := 61) d_V_lookAt_60 rfl rfl rfl ?_
        refine wp_getN (q := 64) (k := 3) d_V_lookAt_61 rfl ok_G (Nat.le_of_ble_eq_true rfl) fk_V_46 (am_at_ne (by omega) hG1.1) rfl ?_
        refine wp_iload (q := 66) d_V_lookAt_64 rfl rfl ?_
        refine wp_ialoadN (q := 67) d_V_lookAt_66 rfl (am_at_ne (by omega) hG1.2.2) rfl hi (by decide) ?_
        refine wp_iload_n (q := 68) d_V_lookAt_67 rfl rfl rfl ?_
        refine wp_iconst (q := 69) (v := -1) d_V_lookAt_68 rfl (by decide) ?_
        refine wp_ixor (q := 70) d_V_lookAt_69 rfl ?_
        refine wp_iand (q := 71) d_V_lookAt_70 rfl ?_
        have e19 : nI (C i) &&& (nI ni ^^^ (-1)) = nI (pu_go C ni no i) := by unfold pu_go; rw [if_neg (by rw [pu_b0.mp c53]; decide), pu_not]
        rw [e19]
        refine wp_iastoreN (q := 72) d_V_lookAt_71 rfl (am_at_ne (by decide) h19) rfl hi (by decide) rfl ?_
        refine wp_inc1 (q := 75) d_V_lookAt_72 rfl rfl (nI_1 _) (Nat.le_of_ble_eq_true rfl) rfl ?_
        refine wp_goto (tgt := 3) d_V_lookAt_75 (by decide) ?_
        rw [pu_mx_s, pu_mx_s]
        exact ih _ ((fr.put (by simp)).put (by simp)) (am_at_ne (by decide) (am_at_eq h18)) (am_at_eq (am_at_ne (by decide) h19))
      · refine wp_iconst (q := 57) (v := 0) d_V_lookAt_56 rfl (by decide) ?_
        refine wp_goto (tgt := 71) d_V_lookAt_57 (by decide) ?_
        have e19 : (0 : Int32) = nI (pu_go C ni no i) := by unfold pu_go; rw [if_pos (pu_b1 c53)]; rfl
        rw [e19]
        refine wp_iastoreN (q := 72) d_V_lookAt_71 rfl (am_at_ne (by decide) h19) rfl hi (by decide) rfl ?_
        refine wp_inc1 (q := 75) d_V_lookAt_72 rfl rfl (nI_1 _) (Nat.le_of_ble_eq_true rfl) rfl ?_
        refine wp_goto (tgt := 3) d_V_lookAt_75 (by decide) ?_
        rw [pu_mx_s, pu_mx_s]
        exact ih _ ((fr.put (by simp)).put (by simp)) (am_at_ne (by decide) (am_at_eq h18)) (am_at_eq (am_at_ne (by decide) h19))
    · refine wp_iconst (q := 26) (v := 0) d_V_lookAt_25 rfl (by decide) ?_
      refine wp_goto (tgt := 40) d_V_lookAt_26 (by decide) ?_
      have e18 : (0 : Int32) = nI (pu_gi P ni no i) := by unfold pu_gi; rw [if_pos (pu_b1 c22)]; rfl
      rw [e18]
      refine wp_iastoreN (q := 41) d_V_lookAt_40 rfl h18 rfl hi (by decide) rfl ?_
      refine wp_aload_n (q := 42) d_V_lookAt_41 rfl rfl rfl ?_
      refine wp_get (q := 45) (k := 1) d_V_lookAt_42 rfl ok_V (Nat.le_of_ble_eq_true rfl) fk_V_15 (am_at_ne (by decide) hV1) rfl ?_
      refine wp_iload (q := 47) d_V_lookAt_45 rfl rfl ?_
      refine wp_iload_n (q := 48) d_V_lookAt_47 rfl rfl rfl ?_
      refine wp_iload (q := 50) d_V_lookAt_48 rfl rfl ?_
      refine wp_cSN2r (q := 53) d_V_lookAt_50 rfl bd_X_has lk_V_37 sm_X_has (Nat.le_of_ble_eq_true rfl) (Nat.le_of_ble_eq_true rfl) (Nat.le_of_ble_eq_true rfl) (c_has (by omega) (by omega)) ?_
      refine wp_if_eq (q := 56) (tgt := 60) d_V_lookAt_53 (by decide) rfl (fun c53 => ?_) (fun c53 => ?_)
      · refine wp_aload_n (q := 61) d_V_lookAt_60 rfl rfl rfl ?_
        refine wp_getN (q := 64) (k := 3) d_V_lookAt_61 rfl ok_G (Nat.le_of_ble_eq_true rfl) fk_V_46 (am_at_ne (by omega) hG1.1) rfl ?_
        refine wp_iload (q := 66) d_V_lookAt_64 rfl rfl ?_
        refine wp_ialoadN (q := 67) d_V_lookAt_66 rfl (am_at_ne (by omega) hG1.2.2) rfl hi (by decide) ?_
        refine wp_iload_n (q := 68) d_V_lookAt_67 rfl rfl rfl ?_
        refine wp_iconst (q := 69) (v := -1) d_V_lookAt_68 rfl (by decide) ?_
        refine wp_ixor (q := 70) d_V_lookAt_69 rfl ?_
        refine wp_iand (q := 71) d_V_lookAt_70 rfl ?_
        have e19 : nI (C i) &&& (nI ni ^^^ (-1)) = nI (pu_go C ni no i) := by unfold pu_go; rw [if_neg (by rw [pu_b0.mp c53]; decide), pu_not]
        rw [e19]
        refine wp_iastoreN (q := 72) d_V_lookAt_71 rfl (am_at_ne (by decide) h19) rfl hi (by decide) rfl ?_
        refine wp_inc1 (q := 75) d_V_lookAt_72 rfl rfl (nI_1 _) (Nat.le_of_ble_eq_true rfl) rfl ?_
        refine wp_goto (tgt := 3) d_V_lookAt_75 (by decide) ?_
        rw [pu_mx_s, pu_mx_s]
        exact ih _ ((fr.put (by simp)).put (by simp)) (am_at_ne (by decide) (am_at_eq h18)) (am_at_eq (am_at_ne (by decide) h19))
      · refine wp_iconst (q := 57) (v := 0) d_V_lookAt_56 rfl (by decide) ?_
        refine wp_goto (tgt := 71) d_V_lookAt_57 (by decide) ?_
        have e19 : (0 : Int32) = nI (pu_go C ni no i) := by unfold pu_go; rw [if_pos (pu_b1 c53)]; rfl
        rw [e19]
        refine wp_iastoreN (q := 72) d_V_lookAt_71 rfl (am_at_ne (by decide) h19) rfl hi (by decide) rfl ?_
        refine wp_inc1 (q := 75) d_V_lookAt_72 rfl rfl (nI_1 _) (Nat.le_of_ble_eq_true rfl) rfl ?_
        refine wp_goto (tgt := 3) d_V_lookAt_75 (by decide) ?_
        rw [pu_mx_s, pu_mx_s]
        exact ih _ ((fr.put (by simp)).put (by simp)) (am_at_ne (by decide) (am_at_eq h18)) (am_at_eq (am_at_ne (by decide) h19))
set_option maxHeartbeats 4000000 in
set_option maxRecDepth 100000 in
theorem c_V_lookAt {w : am_W} {x1 x2 x3 x4 x5 x6 : Int32} (hV : w[17]? = some (.inr (5, [.ref 18, .ref 19, .int x1, .int x2, .int x3, .int x4, .int x5, .int x6]))) {a p c n k : Nat} {P C : Nat → Nat} (hG : GI a p c n k P C w) (ha : a < 17) (hp : p < 17) (hc0 : c < 17) {ni no : Nat} (h1 : ni < 256) (h2 : no < 256) {f1 f2 : Nat → Int32} (h18 : w[18]? = some (.inl (0, 8, .inl f1))) (h19 : w[19]? = some (.inl (0, 8, .inl f2))) : am_Wp none m_V_lookAt 1 0 0 0 [(0, .ref 17), (1, .ref a), (2, .int (nI ni)), (3, .int (nI no))] [] w (fun v w1 => v = none ∧ am_fr [18, 19] w w1 ∧ VI (pu_gi P ni no) (pu_go C ni no) w1) := by
  refine wp_iconst (q := 1) (v := 0) d_V_lookAt_0 rfl (by decide) ?_
  refine wp_istore (q := 3) d_V_lookAt_1 rfl (Nat.le_of_ble_eq_true rfl) rfl ?_
  exact c_V_lookAt_L hV hG ha hp hc0 h1 h2 0 (Nat.zero_le _) w am_fr.rf (by rw [pu_mx_0]; exact h18) (by rw [pu_mx_0]; exact h19)
set_option maxHeartbeats 4000000 in
set_option maxRecDepth 100000 in
theorem c_V_below {w : am_W} {x1 x2 x3 x4 x5 x6 : Int32} (hV : w[17]? = some (.inr (5, [.ref 18, .ref 19, .int x1, .int x2, .int x3, .int x4, .int x5, .int x6]))) {gi go : Nat → Nat} (hI : VI gi go w) (hgi : ∀ i, gi i < 256) (hgo : ∀ i, go i < 256) {i : Nat} (hi : i < 8) : am_Wp none m_V_below 3 0 0 0 [(0, .ref 17), (1, .int (nI i))] [] w (am_R (some (.int (nI (pu_cl go 8 8 (go i))))) w) := by
  refine wp_aload_n (q := 1) d_V_below_0 rfl rfl rfl ?_
  refine wp_get (q := 4) (k := 1) d_V_below_1 rfl ok_V (Nat.le_of_ble_eq_true rfl) fk_V_15 hV rfl ?_
  refine wp_aload_n (q := 5) d_V_below_4 rfl rfl rfl ?_
  refine wp_get (q := 8) (k := 1) d_V_below_5 rfl ok_V (Nat.le_of_ble_eq_true rfl) fk_V_15 hV rfl ?_
  refine wp_iload_n (q := 9) d_V_below_8 rfl rfl rfl ?_
  refine wp_ialoadN (q := 10) d_V_below_9 rfl hI.2 rfl hi (by decide) ?_
  refine wp_cSN2r (q := 13) d_V_below_10 rfl bd_X_closure lk_V_49 sm_X_closure (Nat.le_of_ble_eq_true rfl) (Nat.le_of_ble_eq_true rfl) (Nat.le_of_ble_eq_true rfl) (c_closure hI.2 (by decide) hgo (hgo i)) ?_
  exact wp_ireturn rfl d_V_below_13 ⟨rfl, rfl⟩
set_option maxHeartbeats 4000000 in
set_option maxRecDepth 100000 in
theorem c_V_start {w : am_W} {x1 x2 x3 x4 x5 x6 : Int32} (hV : w[17]? = some (.inr (5, [.ref 18, .ref 19, .int x1, .int x2, .int x3, .int x4, .int x5, .int x6]))) {gi go : Nat → Nat} (hI : VI gi go w) (hgi : ∀ i, gi i < 256) (hgo : ∀ i, go i < 256) {i s : Nat} (hi : i < 8) (hs : s < 256) : am_Wp none m_V_start 3 0 0 0 [(0, .ref 17), (1, .int (nI i)), (2, .int (nI s))] [] w (am_R none (w.set 17 (.inr (5, [.ref 18, .ref 19, .int (nI (s)), .int (nI (pu_cl gi 8 8 s)), .int (nI (go i)), .int (nI (gi i)), .int (nI (go i)), .int (nI (gi i))])))) := by
  refine wp_aload_n (q := 1) d_V_start_0 rfl rfl rfl ?_
  refine wp_iload_n (q := 2) d_V_start_1 rfl rfl rfl ?_
  refine wp_put (q := 5) (k := 2) d_V_start_2 rfl ok_V (Nat.le_of_ble_eq_true rfl) fk_V_18 rfl am_fit_i hV (Nat.le_of_ble_eq_true rfl) rfl ?_
  refine wp_aload_n (q := 6) d_V_start_5 rfl rfl rfl ?_
  refine wp_aload_n (q := 7) d_V_start_6 rfl rfl rfl ?_
  refine wp_get (q := 10) (k := 0) d_V_start_7 rfl ok_V (Nat.le_of_ble_eq_true rfl) fk_V_9 (am_at_eq hV) rfl ?_
  refine wp_iload_n (q := 11) d_V_start_10 rfl rfl rfl ?_
  refine wp_cSN2r (q := 14) d_V_start_11 rfl bd_X_closure lk_V_49 sm_X_closure (Nat.le_of_ble_eq_true rfl) (Nat.le_of_ble_eq_true rfl) (Nat.le_of_ble_eq_true rfl) (c_closure (am_at_ne (by decide) hI.1) (by decide) hgi hs) ?_
  refine wp_put (q := 17) (k := 3) d_V_start_14 rfl ok_V (Nat.le_of_ble_eq_true rfl) fk_V_22 rfl am_fit_i (am_at_eq hV) (Nat.le_of_ble_eq_true rfl) rfl ?_
  refine wp_aload_n (q := 18) d_V_start_17 rfl rfl rfl ?_
  refine wp_aload_n (q := 19) d_V_start_18 rfl rfl rfl ?_
  refine wp_get (q := 22) (k := 1) d_V_start_19 rfl ok_V (Nat.le_of_ble_eq_true rfl) fk_V_15 (am_at_eq (am_at_eq hV)) rfl ?_
  refine wp_iload_n (q := 23) d_V_start_22 rfl rfl rfl ?_
  refine wp_ialoadN (q := 24) d_V_start_23 rfl (am_at_ne (by decide) (am_at_ne (by decide) hI.2)) rfl hi (by decide) ?_
  refine wp_put (q := 27) (k := 4) d_V_start_24 rfl ok_V (Nat.le_of_ble_eq_true rfl) fk_V_25 rfl am_fit_i (am_at_eq (am_at_eq hV)) (Nat.le_of_ble_eq_true rfl) rfl ?_
  refine wp_aload_n (q := 28) d_V_start_27 rfl rfl rfl ?_
  refine wp_aload_n (q := 29) d_V_start_28 rfl rfl rfl ?_
  refine wp_get (q := 32) (k := 0) d_V_start_29 rfl ok_V (Nat.le_of_ble_eq_true rfl) fk_V_9 (am_at_eq (am_at_eq (am_at_eq hV))) rfl ?_
  refine wp_iload_n (q := 33) d_V_start_32 rfl rfl rfl ?_
  refine wp_ialoadN (q := 34) d_V_start_33 rfl (am_at_ne (by decide) (am_at_ne (by decide) (am_at_ne (by decide) hI.1))) rfl hi (by decide) ?_
  refine wp_put (q := 37) (k := 5) d_V_start_34 rfl ok_V (Nat.le_of_ble_eq_true rfl) fk_V_28 rfl am_fit_i (am_at_eq (am_at_eq (am_at_eq hV))) (Nat.le_of_ble_eq_true rfl) rfl ?_
  refine wp_aload_n (q := 38) d_V_start_37 rfl rfl rfl ?_
  refine wp_aload_n (q := 39) d_V_start_38 rfl rfl rfl ?_
  refine wp_get (q := 42) (k := 4) d_V_start_39 rfl ok_V (Nat.le_of_ble_eq_true rfl) fk_V_25 (am_at_eq (am_at_eq (am_at_eq (am_at_eq hV)))) rfl ?_
  refine wp_put (q := 45) (k := 6) d_V_start_42 rfl ok_V (Nat.le_of_ble_eq_true rfl) fk_V_31 rfl am_fit_i (am_at_eq (am_at_eq (am_at_eq (am_at_eq hV)))) (Nat.le_of_ble_eq_true rfl) rfl ?_
  refine wp_aload_n (q := 46) d_V_start_45 rfl rfl rfl ?_
  refine wp_aload_n (q := 47) d_V_start_46 rfl rfl rfl ?_
  refine wp_get (q := 50) (k := 5) d_V_start_47 rfl ok_V (Nat.le_of_ble_eq_true rfl) fk_V_28 (am_at_eq (am_at_eq (am_at_eq (am_at_eq (am_at_eq hV))))) rfl ?_
  refine wp_put (q := 53) (k := 7) d_V_start_50 rfl ok_V (Nat.le_of_ble_eq_true rfl) fk_V_34 rfl am_fit_i (am_at_eq (am_at_eq (am_at_eq (am_at_eq (am_at_eq hV))))) (Nat.le_of_ble_eq_true rfl) rfl ?_
  exact wp_return rfl d_V_start_53 ⟨rfl, by rw [List.set_set, List.set_set, List.set_set, List.set_set, List.set_set]; rfl⟩
set_option maxHeartbeats 4000000 in
set_option maxRecDepth 100000 in
theorem c_V_step {w : am_W} {g m0 na ng sa sg : Nat} (hV : VO g m0 na ng sa sg w) {gi go : Nat → Nat} (hI : VI gi go w) (hgi : ∀ i, gi i < 256) (hgo : ∀ i, go i < 256) (b1 : g < 256) (b2 : m0 < 256) (b3 : na < 256) (b4 : ng < 256) (b5 : sa < 256) (b6 : sg < 256) : am_Wp none m_V_step 2 0 0 0 [(0, .ref 17)] [] w (am_R none (w.set 17 (.inr (5, [.ref 18, .ref 19, .int (nI (g)), .int (nI (m0)), .int (nI (pu_na gi go g m0 na ng sa)), .int (nI (pu_ng gi go g m0 na ng sg)), .int (nI (sa ||| pu_na gi go g m0 na ng sa)), .int (nI (sg ||| pu_ng gi go g m0 na ng sg))])))) := by
  refine wp_aload_n (q := 1) d_V_step_0 rfl rfl rfl ?_
  refine wp_get (q := 4) (k := 5) d_V_step_1 rfl ok_V (Nat.le_of_ble_eq_true rfl) fk_V_28 hV rfl ?_
  refine wp_aload_n (q := 5) d_V_step_4 rfl rfl rfl ?_
  refine wp_get (q := 8) (k := 2) d_V_step_5 rfl ok_V (Nat.le_of_ble_eq_true rfl) fk_V_18 hV rfl ?_
  refine wp_iconst (q := 9) (v := -1) d_V_step_8 rfl (by decide) ?_
  refine wp_ixor (q := 10) d_V_step_9 rfl ?_
  refine wp_iand (q := 11) d_V_step_10 rfl ?_
  rw [pu_not]
  refine wp_istore_n (q := 12) d_V_step_11 rfl rfl (Nat.le_of_ble_eq_true rfl) rfl ?_
  refine wp_aload_n (q := 13) d_V_step_12 rfl rfl rfl ?_
  refine wp_get (q := 16) (k := 1) d_V_step_13 rfl ok_V (Nat.le_of_ble_eq_true rfl) fk_V_15 hV rfl ?_
  refine wp_iload_n (q := 17) d_V_step_16 rfl rfl rfl ?_
  refine wp_aload_n (q := 18) d_V_step_17 rfl rfl rfl ?_
  refine wp_get (q := 21) (k := 4) d_V_step_18 rfl ok_V (Nat.le_of_ble_eq_true rfl) fk_V_25 hV rfl ?_
  refine wp_aload_n (q := 22) d_V_step_21 rfl rfl rfl ?_
  refine wp_get (q := 25) (k := 2) d_V_step_22 rfl ok_V (Nat.le_of_ble_eq_true rfl) fk_V_18 hV rfl ?_
  refine wp_iconst (q := 26) (v := -1) d_V_step_25 rfl (by decide) ?_
  refine wp_ixor (q := 27) d_V_step_26 rfl ?_
  refine wp_iand (q := 28) d_V_step_27 rfl ?_
  rw [pu_not]
  refine wp_ior (q := 29) d_V_step_28 rfl ?_
  rw [pu_or]
  refine wp_cSN2r (q := 32) d_V_step_29 rfl bd_X_union lk_V_60 sm_X_union (Nat.le_of_ble_eq_true rfl) (Nat.le_of_ble_eq_true rfl) (Nat.le_of_ble_eq_true rfl) (c_union hI.2 (by decide) (Nat.lt_trans (pu_or_lt (pu_dif_lt b4) (pu_dif_lt b3)) (by decide))) ?_
  refine wp_aload_n (q := 33) d_V_step_32 rfl rfl rfl ?_
  refine wp_get (q := 36) (k := 6) d_V_step_33 rfl ok_V (Nat.le_of_ble_eq_true rfl) fk_V_31 hV rfl ?_
  refine wp_iconst (q := 37) (v := -1) d_V_step_36 rfl (by decide) ?_
  refine wp_ixor (q := 38) d_V_step_37 rfl ?_
  refine wp_iand (q := 39) d_V_step_38 rfl ?_
  rw [pu_not]
  refine wp_istore_n (q := 40) d_V_step_39 rfl rfl (Nat.le_of_ble_eq_true rfl) rfl ?_
  refine wp_aload_n (q := 41) d_V_step_40 rfl rfl rfl ?_
  refine wp_get (q := 44) (k := 0) d_V_step_41 rfl ok_V (Nat.le_of_ble_eq_true rfl) fk_V_9 hV rfl ?_
  refine wp_iload_n (q := 45) d_V_step_44 rfl rfl rfl ?_
  refine wp_aload_n (q := 46) d_V_step_45 rfl rfl rfl ?_
  refine wp_get (q := 49) (k := 4) d_V_step_46 rfl ok_V (Nat.le_of_ble_eq_true rfl) fk_V_25 hV rfl ?_
  refine wp_aload_n (q := 50) d_V_step_49 rfl rfl rfl ?_
  refine wp_get (q := 53) (k := 3) d_V_step_50 rfl ok_V (Nat.le_of_ble_eq_true rfl) fk_V_22 hV rfl ?_
  refine wp_iand (q := 54) d_V_step_53 rfl ?_
  rw [pu_and]
  refine wp_ior (q := 55) d_V_step_54 rfl ?_
  rw [pu_or]
  refine wp_cSN2r (q := 58) d_V_step_55 rfl bd_X_union lk_V_60 sm_X_union (Nat.le_of_ble_eq_true rfl) (Nat.le_of_ble_eq_true rfl) (Nat.le_of_ble_eq_true rfl) (c_union hI.1 (by decide) (Nat.lt_trans (pu_or_lt (pu_dif_lt b4) (pu_and_lt b3)) (by decide))) ?_
  refine wp_aload_n (q := 59) d_V_step_58 rfl rfl rfl ?_
  refine wp_get (q := 62) (k := 7) d_V_step_59 rfl ok_V (Nat.le_of_ble_eq_true rfl) fk_V_34 hV rfl ?_
  refine wp_iconst (q := 63) (v := -1) d_V_step_62 rfl (by decide) ?_
  refine wp_ixor (q := 64) d_V_step_63 rfl ?_
  refine wp_iand (q := 65) d_V_step_64 rfl ?_
  rw [pu_not]
  refine wp_istore_n (q := 66) d_V_step_65 rfl rfl (Nat.le_of_ble_eq_true rfl) rfl ?_
  refine wp_aload_n (q := 67) d_V_step_66 rfl rfl rfl ?_
  refine wp_iload_n (q := 68) d_V_step_67 rfl rfl rfl ?_
  refine wp_put (q := 71) (k := 4) d_V_step_68 rfl ok_V (Nat.le_of_ble_eq_true rfl) fk_V_25 rfl am_fit_i hV (Nat.le_of_ble_eq_true rfl) rfl ?_
  refine wp_aload_n (q := 72) d_V_step_71 rfl rfl rfl ?_
  refine wp_iload_n (q := 73) d_V_step_72 rfl rfl rfl ?_
  refine wp_put (q := 76) (k := 5) d_V_step_73 rfl ok_V (Nat.le_of_ble_eq_true rfl) fk_V_28 rfl am_fit_i (am_at_eq hV) (Nat.le_of_ble_eq_true rfl) rfl ?_
  refine wp_aload_n (q := 77) d_V_step_76 rfl rfl rfl ?_
  refine wp_dup (q := 78) d_V_step_77 rfl rfl ?_
  refine wp_get (q := 81) (k := 6) d_V_step_78 rfl ok_V (Nat.le_of_ble_eq_true rfl) fk_V_31 (am_at_eq (am_at_eq hV)) rfl ?_
  refine wp_iload_n (q := 82) d_V_step_81 rfl rfl rfl ?_
  refine wp_ior (q := 83) d_V_step_82 rfl ?_
  rw [pu_or]
  refine wp_put (q := 86) (k := 6) d_V_step_83 rfl ok_V (Nat.le_of_ble_eq_true rfl) fk_V_31 rfl am_fit_i (am_at_eq (am_at_eq hV)) (Nat.le_of_ble_eq_true rfl) rfl ?_
  refine wp_aload_n (q := 87) d_V_step_86 rfl rfl rfl ?_
  refine wp_dup (q := 88) d_V_step_87 rfl rfl ?_
  refine wp_get (q := 91) (k := 7) d_V_step_88 rfl ok_V (Nat.le_of_ble_eq_true rfl) fk_V_34 (am_at_eq (am_at_eq (am_at_eq hV))) rfl ?_
  refine wp_iload_n (q := 92) d_V_step_91 rfl rfl rfl ?_
  refine wp_ior (q := 93) d_V_step_92 rfl ?_
  rw [pu_or]
  refine wp_put (q := 96) (k := 7) d_V_step_93 rfl ok_V (Nat.le_of_ble_eq_true rfl) fk_V_34 rfl am_fit_i (am_at_eq (am_at_eq (am_at_eq hV))) (Nat.le_of_ble_eq_true rfl) rfl ?_
  exact wp_return rfl d_V_step_96 ⟨rfl, by rw [List.set_set, List.set_set, List.set_set]; rfl⟩
set_option maxHeartbeats 4000000 in
set_option maxRecDepth 100000 in
theorem c_V_shortest_L {gi go : Nat → Nat} (hgi : ∀ i, gi i < 256) (hgo : ∀ i, go i < 256) {y1 y3 : Int32} {g m0 b : Nat} (hb : b < 8) : ∀ (k j na ng sa sg : Nat) {w : am_W}, j + k = 17 → VO g m0 na ng sa sg w → VI gi go w → g < 256 → m0 < 256 → na < 256 → ng < 256 → sa < 256 → sg < 256 → am_Wp none m_V_shortest 3 0 0 9 [(0, .ref 17), (1, .int y1), (2, .int (nI b)), (3, .int y3), (4, .int (nI j))] [] w (fun v w1 => v = some (.int (pu_sw gi go g m0 b k j na ng sa sg)) ∧ am_fr [17] w w1 ∧ VS w1) := by
  intro k
  induction k with
  | zero =>
    intro j na ng sa sg w hj hV hI b1 b2 b3 b4 b5 b6
    refine wp_iload (q := 11) d_V_shortest_9 rfl rfl ?_
    refine wp_bipush (q := 13) (v := 16) d_V_shortest_11 rfl (by decide) ?_
    refine wp_icmp_gt (q := 16) (tgt := 45) d_V_shortest_13 (by decide) rfl (fun _ => ?_) (fun c13 => absurd (by rw [show j = 17 by omega]; decide) c13)
    refine wp_iconst (q := 46) (v := -1) d_V_shortest_45 rfl (by decide) ?_
    exact wp_ireturn rfl d_V_shortest_46 ⟨rfl, am_fr.rf, ⟨⟨_, _, _, _, _, _, hV⟩, ⟨_, hI.1⟩, _, hI.2⟩⟩
  | succ k ih =>
    intro j na ng sa sg w hj hV hI b1 b2 b3 b4 b5 b6
    refine wp_iload (q := 11) d_V_shortest_9 rfl rfl ?_
    refine wp_bipush (q := 13) (v := 16) d_V_shortest_11 rfl (by decide) ?_
    refine wp_icmp_gt (q := 16) (tgt := 45) d_V_shortest_13 (by decide) rfl (fun c13 => absurd c13 (by rw [show (16 : Int32) = nI 16 from rfl]; exact nI_nlt (by omega) (by decide))) (fun _ => ?_)
    refine wp_aload_n (q := 17) d_V_shortest_16 rfl rfl rfl ?_
    refine wp_get (q := 20) (k := 4) d_V_shortest_17 rfl ok_V (Nat.le_of_ble_eq_true rfl) fk_V_25 hV rfl ?_
    refine wp_aload_n (q := 21) d_V_shortest_20 rfl rfl rfl ?_
    refine wp_get (q := 24) (k := 5) d_V_shortest_21 rfl ok_V (Nat.le_of_ble_eq_true rfl) fk_V_28 hV rfl ?_
    refine wp_ior (q := 25) d_V_shortest_24 rfl ?_
    rw [pu_or]
    refine wp_iload_n (q := 26) d_V_shortest_25 rfl rfl rfl ?_
    refine wp_cSN2r (q := 29) d_V_shortest_26 rfl bd_X_has lk_V_37 sm_X_has (Nat.le_of_ble_eq_true rfl) (Nat.le_of_ble_eq_true rfl) (Nat.le_of_ble_eq_true rfl) (c_has (Nat.lt_trans (pu_or_lt b3 b4) (by decide)) (by omega)) ?_
    refine wp_if_eq (q := 32) (tgt := 35) d_V_shortest_29 (by decide) rfl (fun c29 => ?_) (fun c29 => ?_)
    · refine wp_aload_n (q := 36) d_V_shortest_35 rfl rfl rfl ?_
      refine wp_cV0v (q := 39) d_V_shortest_36 rfl bd_V_step lk_V_57 im_V_step se_V_step rfl (Nat.le_of_ble_eq_true rfl) (Nat.le_of_ble_eq_true rfl) hV (Nat.le_of_ble_eq_true rfl) (c_V_step hV hI hgi hgo b1 b2 b3 b4 b5 b6) ?_
      refine wp_inc1 (q := 42) d_V_shortest_39 rfl rfl (nI_1 _) (Nat.le_of_ble_eq_true rfl) rfl ?_
      refine wp_goto (tgt := 9) d_V_shortest_42 (by decide) ?_
      have e : pu_sw gi go g m0 b (k + 1) j na ng sa sg = pu_sw gi go g m0 b k (j + 1) (pu_na gi go g m0 na ng sa) (pu_ng gi go g m0 na ng sg) (sa ||| pu_na gi go g m0 na ng sa) (sg ||| pu_ng gi go g m0 na ng sg) := by simp [pu_sw, pu_b0.mp c29]
      rw [e]
      refine wp_post (fun v w1 h => ⟨h.1, (am_fr.rf.put (by simp)).tr h.2.1, h.2.2⟩) (ih (j + 1) _ _ _ _ (by omega) (am_at_eq hV) (hI.at (am_fr.rf.put (D := [17]) (by simp)) (by decide) (by decide)) b1 b2 (pu_na_lt hgo _ _ _ _ _) (pu_ng_lt hgi _ _ _ _ _) (pu_or_lt b5 (pu_na_lt hgo _ _ _ _ _)) (pu_or_lt b6 (pu_ng_lt hgi _ _ _ _ _)))
    · refine wp_iload (q := 34) d_V_shortest_32 rfl rfl ?_
      exact wp_ireturn rfl d_V_shortest_34 ⟨by simp [pu_sw, pu_b1 c29], am_fr.rf, ⟨⟨_, _, _, _, _, _, hV⟩, ⟨_, hI.1⟩, _, hI.2⟩⟩
set_option maxHeartbeats 4000000 in
set_option maxRecDepth 100000 in
theorem c_V_shortest {w : am_W} {x1 x2 x3 x4 x5 x6 : Int32} (hV : w[17]? = some (.inr (5, [.ref 18, .ref 19, .int x1, .int x2, .int x3, .int x4, .int x5, .int x6]))) {gi go : Nat → Nat} (hI : VI gi go w) (hgi : ∀ i, gi i < 256) (hgo : ∀ i, go i < 256) {i b s : Nat} (hi : i < 8) (hb : b < 8) (hs : s < 256) : am_Wp none m_V_shortest 4 0 0 0 [(0, .ref 17), (1, .int (nI i)), (2, .int (nI b)), (3, .int (nI s))] [] w (fun v w1 => v = some (.int (pu_sw gi go s (pu_cl gi 8 8 s) b 16 1 (go i) (gi i) (go i) (gi i))) ∧ am_fr [17] w w1 ∧ VS w1) := by
  refine wp_aload_n (q := 1) d_V_shortest_0 rfl rfl rfl ?_
  refine wp_iload_n (q := 2) d_V_shortest_1 rfl rfl rfl ?_
  refine wp_iload_n (q := 3) d_V_shortest_2 rfl rfl rfl ?_
  refine wp_cV2v (q := 6) d_V_shortest_3 rfl bd_V_start lk_V_53 im_V_start se_V_start rfl (Nat.le_of_ble_eq_true rfl) (Nat.le_of_ble_eq_true rfl) hV (Nat.le_of_ble_eq_true rfl) (c_V_start hV hI hgi hgo hi hs) ?_
  refine wp_iconst (q := 7) (v := 1) d_V_shortest_6 rfl (by decide) ?_
  refine wp_istore (q := 9) d_V_shortest_7 rfl (Nat.le_of_ble_eq_true rfl) rfl ?_
  refine wp_post (fun v w1 h => ⟨h.1, (am_fr.rf.put (by simp)).tr h.2.1, h.2.2⟩) (wp_deep (by decide) (c_V_shortest_L hgi hgo hb 16 1 (go i) (gi i) (go i) (gi i) rfl (am_at_eq hV) (hI.at (am_fr.rf.put (D := [17]) (by simp)) (by decide) (by decide)) hs (pu_cl_lt hgi hs) (hgo i) (hgi i) (hgo i) (hgi i)))
set_option maxHeartbeats 4000000 in
set_option maxRecDepth 100000 in
theorem c_V_reached_L {gi go : Nat → Nat} (hgi : ∀ i, gi i < 256) (hgo : ∀ i, go i < 256) {y1 y2 : Int32} {g m0 : Nat} : ∀ (k j na ng sa sg : Nat) {w : am_W}, j + k = 17 → VO g m0 na ng sa sg w → VI gi go w → g < 256 → m0 < 256 → na < 256 → ng < 256 → sa < 256 → sg < 256 → am_Wp none m_V_reached 3 0 0 8 [(0, .ref 17), (1, .int y1), (2, .int y2), (3, .int (nI j))] [] w (fun v w1 => v = some (.int (nI (pu_re gi go g m0 k na ng sa sg))) ∧ am_fr [17] w w1 ∧ VS w1) := by
  intro k
  induction k with
  | zero =>
    intro j na ng sa sg w hj hV hI b1 b2 b3 b4 b5 b6
    refine wp_iload_n (q := 9) d_V_reached_8 rfl rfl rfl ?_
    refine wp_bipush (q := 11) (v := 16) d_V_reached_9 rfl (by decide) ?_
    refine wp_icmp_gt (q := 14) (tgt := 36) d_V_reached_11 (by decide) rfl (fun _ => ?_) (fun c11 => absurd (by rw [show j = 17 by omega]; decide) c11)
    refine wp_aload_n (q := 37) d_V_reached_36 rfl rfl rfl ?_
    refine wp_get (q := 40) (k := 6) d_V_reached_37 rfl ok_V (Nat.le_of_ble_eq_true rfl) fk_V_31 hV rfl ?_
    refine wp_aload_n (q := 41) d_V_reached_40 rfl rfl rfl ?_
    refine wp_get (q := 44) (k := 7) d_V_reached_41 rfl ok_V (Nat.le_of_ble_eq_true rfl) fk_V_34 hV rfl ?_
    refine wp_ior (q := 45) d_V_reached_44 rfl ?_
    exact wp_ireturn rfl d_V_reached_45 ⟨by rw [pu_or]; rfl, am_fr.rf, ⟨⟨_, _, _, _, _, _, hV⟩, ⟨_, hI.1⟩, _, hI.2⟩⟩
  | succ k ih =>
    intro j na ng sa sg w hj hV hI b1 b2 b3 b4 b5 b6
    refine wp_iload_n (q := 9) d_V_reached_8 rfl rfl rfl ?_
    refine wp_bipush (q := 11) (v := 16) d_V_reached_9 rfl (by decide) ?_
    refine wp_icmp_gt (q := 14) (tgt := 36) d_V_reached_11 (by decide) rfl (fun c11 => absurd c11 (by rw [show (16 : Int32) = nI 16 from rfl]; exact nI_nlt (by omega) (by decide))) (fun _ => ?_)
    refine wp_aload_n (q := 15) d_V_reached_14 rfl rfl rfl ?_
    refine wp_get (q := 18) (k := 4) d_V_reached_15 rfl ok_V (Nat.le_of_ble_eq_true rfl) fk_V_25 hV rfl ?_
    refine wp_aload_n (q := 19) d_V_reached_18 rfl rfl rfl ?_
    refine wp_get (q := 22) (k := 5) d_V_reached_19 rfl ok_V (Nat.le_of_ble_eq_true rfl) fk_V_28 hV rfl ?_
    refine wp_ior (q := 23) d_V_reached_22 rfl ?_
    rw [pu_or]
    refine wp_if_eq (q := 26) (tgt := 36) d_V_reached_23 (by decide) rfl (fun c23 => ?_) (fun c23 => ?_)
    · have hz : na ||| ng = 0 := pu_nI_inj (Nat.lt_trans (pu_or_lt b3 b4) (by decide)) (by decide) (c23.trans nI_0.symm)
      refine wp_aload_n (q := 37) d_V_reached_36 rfl rfl rfl ?_
      refine wp_get (q := 40) (k := 6) d_V_reached_37 rfl ok_V (Nat.le_of_ble_eq_true rfl) fk_V_31 hV rfl ?_
      refine wp_aload_n (q := 41) d_V_reached_40 rfl rfl rfl ?_
      refine wp_get (q := 44) (k := 7) d_V_reached_41 rfl ok_V (Nat.le_of_ble_eq_true rfl) fk_V_34 hV rfl ?_
      refine wp_ior (q := 45) d_V_reached_44 rfl ?_
      exact wp_ireturn rfl d_V_reached_45 ⟨by rw [pu_or]; simp [pu_re, hz], am_fr.rf, ⟨⟨_, _, _, _, _, _, hV⟩, ⟨_, hI.1⟩, _, hI.2⟩⟩
    · have hz : ¬ na ||| ng = 0 := fun e => c23 (by rw [e]; exact nI_0)
      refine wp_aload_n (q := 27) d_V_reached_26 rfl rfl rfl ?_
      refine wp_cV0v (q := 30) d_V_reached_27 rfl bd_V_step lk_V_57 im_V_step se_V_step rfl (Nat.le_of_ble_eq_true rfl) (Nat.le_of_ble_eq_true rfl) hV (Nat.le_of_ble_eq_true rfl) (c_V_step hV hI hgi hgo b1 b2 b3 b4 b5 b6) ?_
      refine wp_inc1 (q := 33) d_V_reached_30 rfl rfl (nI_1 _) (Nat.le_of_ble_eq_true rfl) rfl ?_
      refine wp_goto (tgt := 8) d_V_reached_33 (by decide) ?_
      have e : pu_re gi go g m0 (k + 1) na ng sa sg = pu_re gi go g m0 k (pu_na gi go g m0 na ng sa) (pu_ng gi go g m0 na ng sg) (sa ||| pu_na gi go g m0 na ng sa) (sg ||| pu_ng gi go g m0 na ng sg) := by simp [pu_re, hz]
      rw [e]
      refine wp_post (fun v w1 h => ⟨h.1, (am_fr.rf.put (by simp)).tr h.2.1, h.2.2⟩) (ih (j + 1) _ _ _ _ (by omega) (am_at_eq hV) (hI.at (am_fr.rf.put (D := [17]) (by simp)) (by decide) (by decide)) b1 b2 (pu_na_lt hgo _ _ _ _ _) (pu_ng_lt hgi _ _ _ _ _) (pu_or_lt b5 (pu_na_lt hgo _ _ _ _ _)) (pu_or_lt b6 (pu_ng_lt hgi _ _ _ _ _)))
set_option maxHeartbeats 4000000 in
set_option maxRecDepth 100000 in
theorem c_V_reached {w : am_W} {x1 x2 x3 x4 x5 x6 : Int32} (hV : w[17]? = some (.inr (5, [.ref 18, .ref 19, .int x1, .int x2, .int x3, .int x4, .int x5, .int x6]))) {gi go : Nat → Nat} (hI : VI gi go w) (hgi : ∀ i, gi i < 256) (hgo : ∀ i, go i < 256) {i s : Nat} (hi : i < 8) (hs : s < 256) : am_Wp none m_V_reached 4 0 0 0 [(0, .ref 17), (1, .int (nI i)), (2, .int (nI s))] [] w (fun v w1 => v = some (.int (nI (pu_re gi go s (pu_cl gi 8 8 s) 16 (go i) (gi i) (go i) (gi i)))) ∧ am_fr [17] w w1 ∧ VS w1) := by
  refine wp_aload_n (q := 1) d_V_reached_0 rfl rfl rfl ?_
  refine wp_iload_n (q := 2) d_V_reached_1 rfl rfl rfl ?_
  refine wp_iload_n (q := 3) d_V_reached_2 rfl rfl rfl ?_
  refine wp_cV2v (q := 6) d_V_reached_3 rfl bd_V_start lk_V_53 im_V_start se_V_start rfl (Nat.le_of_ble_eq_true rfl) (Nat.le_of_ble_eq_true rfl) hV (Nat.le_of_ble_eq_true rfl) (c_V_start hV hI hgi hgo hi hs) ?_
  refine wp_iconst (q := 7) (v := 1) d_V_reached_6 rfl (by decide) ?_
  refine wp_istore_n (q := 8) d_V_reached_7 rfl rfl (Nat.le_of_ble_eq_true rfl) rfl ?_
  refine wp_post (fun v w1 h => ⟨h.1, (am_fr.rf.put (by simp)).tr h.2.1, h.2.2⟩) (wp_deep (by decide) (c_V_reached_L hgi hgo 16 1 (go i) (gi i) (go i) (gi i) rfl (am_at_eq hV) (hI.at (am_fr.rf.put (D := [17]) (by simp)) (by decide) (by decide)) hs (pu_cl_lt hgi hs) (hgo i) (hgi i) (hgo i) (hgi i)))
set_option maxHeartbeats 4000000 in
set_option maxRecDepth 100000 in
theorem c_N_start {w : am_W} {a b : Nat} (hM : MS a b w) (hab : a ≠ b) {s : Nat} : am_Wp none m_N_start 1 0 0 0 [(0, .ref a), (1, .int (nI s))] [] w (fun v w1 => v = none ∧ am_fr [a, b] w w1 ∧ MI a b s (fun _ => 0) w1) := by
  obtain ⟨⟨s0, e1⟩, f0, e2⟩ := hM
  refine wp_aload_n (q := 1) d_N_start_0 rfl rfl rfl ?_
  refine wp_iload_n (q := 2) d_N_start_1 rfl rfl rfl ?_
  refine wp_put (q := 5) (k := 0) d_N_start_2 rfl ok_N (Nat.le_of_ble_eq_true rfl) fk_N_9 rfl am_fit_i e1 (Nat.le_of_ble_eq_true rfl) rfl ?_
  refine wp_aload_n (q := 6) d_N_start_5 rfl rfl rfl ?_
  refine wp_get (q := 9) (k := 1) d_N_start_6 rfl ok_N (Nat.le_of_ble_eq_true rfl) fk_N_15 (am_at_eq e1) rfl ?_
  refine wp_lconst (q := 10) (v := 0) d_N_start_9 rfl (by decide) ?_
  refine wp_cS2v (q := 13) d_N_start_10 rfl bd_A_fillJ lk_N_19 sm_A_fillJ (Nat.le_of_ble_eq_true rfl) (Nat.le_of_ble_eq_true rfl) (Nat.le_of_ble_eq_true rfl) (c_fillJ (am_at_ne hab e2) (by decide)) ?_
  exact wp_return rfl d_N_start_13 ⟨rfl, (am_fr.rf.put (by simp)).put (by simp), am_at_ne (Ne.symm hab) (am_at_eq e1), am_at_eq (am_at_ne hab e2)⟩
set_option maxHeartbeats 4000000 in
set_option maxRecDepth 100000 in
theorem c_N_add {w : am_W} {a b s : Nat} {S : Nat → Nat} (hM : MI a b s S w) (hs : s < 256) (hab : a ≠ b) {v x : Nat} : am_Wp none m_N_add 0 0 0 0 [(0, .ref a), (1, .int (nI v)), (2, .long (lN x))] [] w (fun v1 w1 => v1 = none ∧ am_fr [b] w w1 ∧ MI a b s (pu_ad S (v &&& s) x) w1) := by
  refine wp_aload_n (q := 1) d_N_add_0 rfl rfl rfl ?_
  refine wp_get (q := 4) (k := 1) d_N_add_1 rfl ok_N (Nat.le_of_ble_eq_true rfl) fk_N_15 hM.1 rfl ?_
  refine wp_iload_n (q := 5) d_N_add_4 rfl rfl rfl ?_
  refine wp_aload_n (q := 6) d_N_add_5 rfl rfl rfl ?_
  refine wp_get (q := 9) (k := 0) d_N_add_6 rfl ok_N (Nat.le_of_ble_eq_true rfl) fk_N_9 hM.1 rfl ?_
  refine wp_iand (q := 10) d_N_add_9 rfl ?_
  rw [pu_and]
  refine wp_dup2 (q := 11) d_N_add_10 rfl rfl rfl ?_
  refine wp_laloadN (q := 12) d_N_add_11 rfl hM.2 rfl (Nat.lt_of_le_of_lt Nat.and_le_right hs) (by decide) ?_
  refine wp_lload_n (q := 13) d_N_add_12 rfl rfl rfl ?_
  refine wp_ladd (q := 14) d_N_add_13 rfl ?_
  refine wp_lastoreN (q := 15) d_N_add_14 rfl hM.2 rfl (Nat.lt_of_le_of_lt Nat.and_le_right hs) (by decide) rfl ?_
  rw [pu_ad_u]
  exact wp_return rfl d_N_add_15 ⟨rfl, am_fr.rf.put (by simp), am_at_ne (Ne.symm hab) hM.1, am_at_eq hM.2⟩
set_option maxHeartbeats 4000000 in
set_option maxRecDepth 100000 in
theorem c_N_sum {w : am_W} {a b s : Nat} {S : Nat → Nat} (hM : MI a b s S w) (hs : s < 256) {v : Nat} : am_Wp none m_N_sum 0 0 0 0 [(0, .ref a), (1, .int (nI v))] [] w (am_R (some (.long (lN (S (v &&& s))))) w) := by
  refine wp_aload_n (q := 1) d_N_sum_0 rfl rfl rfl ?_
  refine wp_get (q := 4) (k := 1) d_N_sum_1 rfl ok_N (Nat.le_of_ble_eq_true rfl) fk_N_15 hM.1 rfl ?_
  refine wp_iload_n (q := 5) d_N_sum_4 rfl rfl rfl ?_
  refine wp_aload_n (q := 6) d_N_sum_5 rfl rfl rfl ?_
  refine wp_get (q := 9) (k := 0) d_N_sum_6 rfl ok_N (Nat.le_of_ble_eq_true rfl) fk_N_9 hM.1 rfl ?_
  refine wp_iand (q := 10) d_N_sum_9 rfl ?_
  rw [pu_and]
  refine wp_laloadN (q := 11) d_N_sum_10 rfl hM.2 rfl (Nat.lt_of_le_of_lt Nat.and_le_right hs) (by decide) ?_
  exact wp_lreturn rfl d_N_sum_11 ⟨rfl, rfl⟩
end
section
/-! THE STATE (4): kin -/
/-- the arcs of one parent p to the first n places; of the first k places -/
def pu_row (C : Nat → Nat) (p : Nat) : Nat → List (Nat × Nat)
  | 0 => []
  | c + 1 => if (C p).testBit c then pu_row C p c ++ [(p, c)] else pu_row C p c
def pu_al (C : Nat → Nat) (n : Nat) : Nat → List (Nat × Nat)
  | 0 => []
  | p + 1 => pu_al C n p ++ pu_row C p n
theorem pu_row_le {C : Nat → Nat} {p : Nat} : ∀ {k c : Nat}, (pu_row C p c).length ≤ (pu_row C p (c + k)).length
  | 0, _ => Nat.le_refl _
  | k + 1, c => by
    refine Nat.le_trans (pu_row_le (k := k)) ?_
    show _ ≤ (pu_row C p (c + k + 1)).length
    rw [pu_row]
    by_cases h : (C p).testBit (c + k) = true
    · rw [if_pos h, List.length_append]; exact Nat.le_add_right _ _
    · rw [if_neg h]; exact Nat.le_refl _
theorem pu_al_le {C : Nat → Nat} {n : Nat} : ∀ {k p : Nat}, (pu_al C n p).length ≤ (pu_al C n (p + k)).length
  | 0, _ => Nat.le_refl _
  | k + 1, p => by
    refine Nat.le_trans (pu_al_le (k := k)) ?_
    show _ ≤ (pu_al C n (p + k) ++ pu_row C (p + k) n).length
    rw [List.length_append]; exact Nat.le_add_right _ _
theorem pu_stage {C : Nat → Nat} {n p c : Nat} (hp : p < n) (hc : c ≤ n) : (pu_al C n p ++ pu_row C p c).length ≤ (pu_al C n n).length := by
  have h1 : (pu_row C p c).length ≤ (pu_row C p n).length := by
    have := pu_row_le (C := C) (p := p) (k := n - c) (c := c)
    rw [show c + (n - c) = n by omega] at this
    exact this
  have h2 : (pu_al C n (p + 1)).length ≤ (pu_al C n n).length := by
    have := pu_al_le (C := C) (n := n) (k := n - (p + 1)) (p := p + 1)
    rw [show p + 1 + (n - (p + 1)) = n by omega] at this
    exact this
  have h3 : (pu_al C n (p + 1)).length = (pu_al C n p).length + (pu_row C p n).length := by
    show (pu_al C n p ++ pu_row C p n).length = _
    rw [List.length_append]
  rw [List.length_append]
  omega
/-- a row that holds the first (the second) halves of a list, and behind it what f says -/
def pu_l1 (L : List (Nat × Nat)) (f : Nat → Int32) : Nat → Int32 := fun j => match L[j]? with
  | some q => nI q.1
  | none => f j
def pu_l2 (L : List (Nat × Nat)) (f : Nat → Int32) : Nat → Int32 := fun j => match L[j]? with
  | some q => nI q.2
  | none => f j
theorem pu_l1_s {L : List (Nat × Nat)} {f : Nat → Int32} {p c : Nat} : upd (pu_l1 L f) L.length (nI p) = pu_l1 (L ++ [(p, c)]) f := by
  funext j
  unfold upd pu_l1
  rcases Nat.lt_trichotomy j L.length with h | h | h
  · rw [if_neg (by omega), List.getElem?_append_left h]
  · subst h
    rw [if_pos rfl, List.getElem?_append_right (Nat.le_refl _)]
    simp
  · rw [if_neg (by omega), List.getElem?_eq_none (by omega), List.getElem?_eq_none (by rw [List.length_append]; exact h)]
theorem pu_l2_s {L : List (Nat × Nat)} {f : Nat → Int32} {p c : Nat} : upd (pu_l2 L f) L.length (nI c) = pu_l2 (L ++ [(p, c)]) f := by
  funext j
  unfold upd pu_l2
  rcases Nat.lt_trichotomy j L.length with h | h | h
  · rw [if_neg (by omega), List.getElem?_append_left h]
  · subst h
    rw [if_pos rfl, List.getElem?_append_right (Nat.le_refl _)]
    simp
  · rw [if_neg (by omega), List.getElem?_eq_none (by omega), List.getElem?_eq_none (by rw [List.length_append]; exact h)]
theorem pu_l1_at {L : List (Nat × Nat)} {f : Nat → Int32} {j : Nat} {q : Nat × Nat} (h : L[j]? = some q) : pu_l1 L f j = nI q.1 := by unfold pu_l1; rw [h]
theorem pu_l2_at {L : List (Nat × Nat)} {f : Nat → Int32} {j : Nat} {q : Nat × Nat} (h : L[j]? = some q) : pu_l2 L f j = nI q.2 := by unfold pu_l2; rw [h]
/-- kin: the list L of arcs, the rows pa as directed so far, how many were found (fo), which were turned (tu) -/
def KO (ar fo tu : Nat) (w : am_W) : Prop := w[20]? = some (.inr (2, [.ref 21, .int (nI ar), .ref 24, .ref 25, .ref 26, .int (nI fo), .int (nI tu)]))
def KL (L : List (Nat × Nat)) (w : am_W) : Prop := ∃ f1 f2 : Nat → Int32, w[24]? = some (.inl (0, 10, .inl (pu_l1 L f1))) ∧ w[25]? = some (.inl (0, 10, .inl (pu_l2 L f2)))
theorem KL.at {D : List Nat} {w w1 : am_W} {L : List (Nat × Nat)} (h : KL L w) (f : am_fr D w w1) (h1 : 24 ∉ D) (h2 : 25 ∉ D) : KL L w1 := by
  obtain ⟨f1, f2, e1, e2⟩ := h
  exact ⟨f1, f2, f.at h1 e1, f.at h2 e2⟩
/-- .. whatever stands there -/
def KS (w : am_W) : Prop := (∃ x1 x2 x3 : Int32, w[20]? = some (.inr (2, [.ref 21, .int x1, .ref 24, .ref 25, .ref 26, .int x2, .int x3]))) ∧ (∃ y1 y2 : Int32, w[21]? = some (.inr (1, [.int y1, .int y2, .ref 22, .ref 23]))) ∧ (∃ f : Nat → Int32, w[22]? = some (.inl (0, 8, .inl f))) ∧ (∃ f : Nat → Int32, w[23]? = some (.inl (0, 8, .inl f))) ∧ (∃ f : Nat → Int32, w[24]? = some (.inl (0, 10, .inl f))) ∧ (∃ f : Nat → Int32, w[25]? = some (.inl (0, 10, .inl f))) ∧ ∃ f : Nat → Int32, w[26]? = some (.inl (0, 8, .inl f))
theorem KS.at {D : List Nat} {w w1 : am_W} (h : KS w) (f : am_fr D w w1) (hD : ∀ i, i ∈ D → i < 20 ∨ 26 < i) : KS w1 := by
  have nd : ∀ j, 20 ≤ j → j ≤ 26 → j ∉ D := fun j h1 h2 q => by have := hD j q; omega
  obtain ⟨⟨x1, x2, x3, e0⟩, ⟨y1, y2, e1⟩, ⟨f2, e2⟩, ⟨f3, e3⟩, ⟨f4, e4⟩, ⟨f5, e5⟩, f6, e6⟩ := h
  exact ⟨⟨x1, x2, x3, f.at (nd _ (by decide) (by decide)) e0⟩, ⟨y1, y2, f.at (nd _ (by decide) (by decide)) e1⟩, ⟨f2, f.at (nd _ (by decide) (by decide)) e2⟩, ⟨f3, f.at (nd _ (by decide) (by decide)) e3⟩, ⟨f4, f.at (nd _ (by decide) (by decide)) e4⟩, ⟨f5, f.at (nd _ (by decide) (by decide)) e5⟩, f6, f.at (nd _ (by decide) (by decide)) e6⟩
/-- whether the arc p, c was turned: the first such in L from i on -/
def pu_it (L : List (Nat × Nat)) (tu p c : Nat) : Nat → Nat → Bool
  | 0, _ => false
  | k + 1, i => if L[i]? = some (p, c) then tu.testBit i else pu_it L tu p c k (i + 1)
/-- whether an arc may be laid: no strangers but those of the first graph come together, and no ring -/
def pu_mf (P C : Nat → Nat) (pa : Nat → Nat) (p c : Nat) : Bool := decide (pu_dif (pu_dif (pa c) (P p ||| C p)) (pu_st P C p c) = 0)
def pu_may (P C : Nat → Nat) (pa : Nat → Nat) (p c : Nat) : Bool := pu_mf P C pa p c && !(pu_cl pa 8 8 (2 ^ p)).testBit c
abbrev pu_S : Type := (Nat → Nat) × Nat × Nat
/-- laying one arc, then what 'go' does, then taking it away -/
def pu_on (s : pu_S) (p c : Nat) : pu_S := (pu_set s.1 c (s.1 c ||| 2 ^ p), s.2.1, s.2.2)
def pu_off (s : pu_S) (p c : Nat) : pu_S := (pu_set s.1 c (pu_dif (s.1 c) (2 ^ p)), s.2.1, s.2.2)
def pu_one (P C : Nat → Nat) (go : pu_S → pu_S) (p c : Nat) (s : pu_S) : pu_S := if pu_may P C s.1 p c then pu_off (go (pu_on s p c)) p c else s
/-- all ways of the last k arcs of L -/
def pu_dr (P C : Nat → Nat) (L : List (Nat × Nat)) : Nat → Nat → pu_S → pu_S
  | 0, ts, s => (s.1, s.2.1 + 1, s.2.2 ||| ts)
  | k + 1, ts, s => match L[L.length - (k + 1)]? with
    | none => s
    | some q => if pu_st P C q.1 q.2 = 0 then pu_one P C (pu_dr P C L k (ts ||| 2 ^ (L.length - (k + 1)))) q.2 q.1 (pu_one P C (pu_dr P C L k ts) q.1 q.2 s) else pu_one P C (pu_dr P C L k ts) q.1 q.2 s
def pu_ok (s : pu_S) : Prop := ∀ i, s.1 i < 256
theorem pu_set_lt {g : Nat → Nat} {j x : Nat} (h : ∀ i, g i < 256) (hx : x < 256) : ∀ i, pu_set g j x i < 256 := by
  intro i
  unfold pu_set
  by_cases e : i = j
  · rw [if_pos e]; exact hx
  · rw [if_neg e]; exact h i
theorem pu_on_ok {s : pu_S} {p c : Nat} (h : pu_ok s) (hp : p < 8) : pu_ok (pu_on s p c) := pu_set_lt h (pu_or_lt (h c) (pu_p2 hp))
theorem pu_off_ok {s : pu_S} {p c : Nat} (h : pu_ok s) : pu_ok (pu_off s p c) := pu_set_lt h (pu_dif_lt (h c))
theorem pu_one_ok {P C : Nat → Nat} {go : pu_S → pu_S} {p c : Nat} {s : pu_S} (hp : p < 8) (hgo : ∀ s, pu_ok s → pu_ok (go s)) (h : pu_ok s) : pu_ok (pu_one P C go p c s) := by
  unfold pu_one
  by_cases e : pu_may P C s.1 p c = true
  · rw [if_pos e]; exact pu_off_ok (hgo _ (pu_on_ok h hp))
  · rw [if_neg e]; exact h
theorem pu_dr_ok {P C : Nat → Nat} {L : List (Nat × Nat)} (hL : ∀ (i : Nat) (q : Nat × Nat), L[i]? = some q → q.1 < 8 ∧ q.2 < 8) : ∀ (k ts : Nat) (s : pu_S), pu_ok s → pu_ok (pu_dr P C L k ts s)
  | 0, _, _, h => h
  | k + 1, ts, s, h => by
    unfold pu_dr
    cases e : L[L.length - (k + 1)]? with
    | none => exact h
    | some q =>
      have hq := hL _ _ e
      have h1 := pu_one_ok (P := P) (C := C) (go := pu_dr P C L k ts) (p := q.1) (c := q.2) hq.1 (fun s hs => pu_dr_ok hL k ts s hs) h
      show pu_ok (if pu_st P C q.1 q.2 = 0 then _ else _)
      by_cases e2 : pu_st P C q.1 q.2 = 0
      · rw [if_pos e2]; exact pu_one_ok hq.2 (fun s hs => pu_dr_ok hL k _ s hs) h1
      · rw [if_neg e2]; exact h1
/-- the cells of kin, with the state s -/
def KK (L : List (Nat × Nat)) (n k : Nat) (P C : Nat → Nat) (s : pu_S) (w : am_W) : Prop := KO L.length s.2.1 s.2.2 w ∧ KL L w ∧ GI 21 22 23 n k P C w ∧ w[26]? = some (am_ar 8 s.1)
end
section
/-! CONTRACTS of Kin -/
set_option maxHeartbeats 4000000 in
set_option maxRecDepth 100000 in
theorem c_K_list_L2 {w : am_W} {x2 x3 : Int32} {n k : Nat} {P C : Nat → Nat} (hG : GI 21 22 23 n k P C w) (hn : n ≤ 8) (hC : ∀ i, C i < 256) (hlen : (pu_al C n n).length ≤ 10) {f1 f2 : Nat → Int32} {i : Nat} (hi : i < n) (hout : ∀ w1, am_fr [20, 24, 25] w w1 → w1[20]? = some (.inr (2, [.ref 21, .int (nI (pu_al C n (i + 1)).length), .ref 24, .ref 25, .ref 26, .int x2, .int x3])) → w1[24]? = some (.inl (0, 10, .inl (pu_l1 (pu_al C n (i + 1)) f1))) → w1[25]? = some (.inl (0, 10, .inl (pu_l2 (pu_al C n (i + 1)) f2))) → am_Wp none m_K_listArcs 1 0 0 92 [(0, .ref 20), (1, .int (nI i)), (2, .int (nI n))] [] w1 (fun v w1 => v = none ∧ am_fr [20, 24, 25] w w1 ∧ w1[20]? = some (.inr (2, [.ref 21, .int (nI (pu_al C n n).length), .ref 24, .ref 25, .ref 26, .int x2, .int x3])) ∧ KL (pu_al C n n) w1)) : ∀ j, j ≤ n → ∀ w1, am_fr [20, 24, 25] w w1 → w1[20]? = some (.inr (2, [.ref 21, .int (nI (pu_al C n i ++ pu_row C i j).length), .ref 24, .ref 25, .ref 26, .int x2, .int x3])) → w1[24]? = some (.inl (0, 10, .inl (pu_l1 (pu_al C n i ++ pu_row C i j) f1))) → w1[25]? = some (.inl (0, 10, .inl (pu_l2 (pu_al C n i ++ pu_row C i j) f2))) → am_Wp none m_K_listArcs 1 0 0 20 [(0, .ref 20), (1, .int (nI i)), (2, .int (nI j))] [] w1 (fun v w1 => v = none ∧ am_fr [20, 24, 25] w w1 ∧ w1[20]? = some (.inr (2, [.ref 21, .int (nI (pu_al C n n).length), .ref 24, .ref 25, .ref 26, .int x2, .int x3])) ∧ KL (pu_al C n n) w1) := by
  refine pu_up (P := fun j => ∀ w1, am_fr [20, 24, 25] w w1 → w1[20]? = some (.inr (2, [.ref 21, .int (nI (pu_al C n i ++ pu_row C i j).length), .ref 24, .ref 25, .ref 26, .int x2, .int x3])) → w1[24]? = some (.inl (0, 10, .inl (pu_l1 (pu_al C n i ++ pu_row C i j) f1))) → w1[25]? = some (.inl (0, 10, .inl (pu_l2 (pu_al C n i ++ pu_row C i j) f2))) → am_Wp none m_K_listArcs 1 0 0 20 [(0, .ref 20), (1, .int (nI i)), (2, .int (nI j))] [] w1 (fun v w1 => v = none ∧ am_fr [20, 24, 25] w w1 ∧ w1[20]? = some (.inr (2, [.ref 21, .int (nI (pu_al C n n).length), .ref 24, .ref 25, .ref 26, .int x2, .int x3])) ∧ KL (pu_al C n n) w1)) ?_ ?_
  · intro w1 fr hK h24 h25
    have hG1 := hG.at fr (by decide) (by decide) (by decide)
    refine wp_iload_n (q := 21) d_K_listArcs_20 rfl rfl rfl ?_
    refine wp_aload_n (q := 22) d_K_listArcs_21 rfl rfl rfl ?_
    refine wp_get (q := 25) (k := 0) d_K_listArcs_22 rfl ok_K (Nat.le_of_ble_eq_true rfl) fk_K_12 hK rfl ?_
    refine wp_getN (q := 28) (k := 0) d_K_listArcs_25 rfl ok_G (Nat.le_of_ble_eq_true rfl) fk_K_55 hG1.1 rfl ?_
    refine wp_icmp_ge (q := 31) (tgt := 92) d_K_listArcs_28 (by decide) rfl (fun _ => ?_) (fun c28 => absurd (nI_le (Nat.le_refl n) (by omega)) c28)
    exact hout w1 fr hK h24 h25
  · intro j hj ih w1 fr hK h24 h25
    have hG1 := hG.at fr (by decide) (by decide) (by decide)
    refine wp_iload_n (q := 21) d_K_listArcs_20 rfl rfl rfl ?_
    refine wp_aload_n (q := 22) d_K_listArcs_21 rfl rfl rfl ?_
    refine wp_get (q := 25) (k := 0) d_K_listArcs_22 rfl ok_K (Nat.le_of_ble_eq_true rfl) fk_K_12 hK rfl ?_
    refine wp_getN (q := 28) (k := 0) d_K_listArcs_25 rfl ok_G (Nat.le_of_ble_eq_true rfl) fk_K_55 hG1.1 rfl ?_
    refine wp_icmp_ge (q := 31) (tgt := 92) d_K_listArcs_28 (by decide) rfl (fun c28 => absurd c28 (nI_ge hj (by omega))) (fun _ => ?_)
    refine wp_aload_n (q := 32) d_K_listArcs_31 rfl rfl rfl ?_
    refine wp_get (q := 35) (k := 0) d_K_listArcs_32 rfl ok_K (Nat.le_of_ble_eq_true rfl) fk_K_12 hK rfl ?_
    refine wp_getN (q := 38) (k := 3) d_K_listArcs_35 rfl ok_G (Nat.le_of_ble_eq_true rfl) fk_K_58 hG1.1 rfl ?_
    refine wp_iload_n (q := 39) d_K_listArcs_38 rfl rfl rfl ?_
    refine wp_ialoadN (q := 40) d_K_listArcs_39 rfl hG1.2.2 rfl (by omega) (by decide) ?_
    refine wp_iload_n (q := 41) d_K_listArcs_40 rfl rfl rfl ?_
    refine wp_cSN2r (q := 44) d_K_listArcs_41 rfl bd_X_has lk_K_61 sm_X_has (Nat.le_of_ble_eq_true rfl) (Nat.le_of_ble_eq_true rfl) (Nat.le_of_ble_eq_true rfl) (c_has (Nat.lt_trans (hC i) (by decide)) (by omega)) ?_
    refine wp_if_eq (q := 47) (tgt := 86) d_K_listArcs_44 (by decide) rfl (fun c44 => ?_) (fun c44 => ?_)
    · refine wp_inc1 (q := 89) d_K_listArcs_86 rfl rfl (nI_1 _) (Nat.le_of_ble_eq_true rfl) rfl ?_
      refine wp_goto (tgt := 20) d_K_listArcs_89 (by decide) ?_
      have e : pu_row C i (j + 1) = pu_row C i j := by simp [pu_row, pu_b0.mp c44]
      rw [e] at ih
      exact ih w1 fr hK h24 h25
    · have e : pu_row C i (j + 1) = pu_row C i j ++ [(i, j)] := by simp [pu_row, pu_b1 c44]
      have hst := pu_stage (C := C) (n := n) (p := i) (c := j + 1) hi (by omega)
      rw [e, ← List.append_assoc, List.length_append] at hst
      have hlt : (pu_al C n i ++ pu_row C i j).length < 10 := by simp only [List.length_singleton] at hst; omega
      refine wp_aload_n (q := 48) d_K_listArcs_47 rfl rfl rfl ?_
      refine wp_get (q := 51) (k := 1) d_K_listArcs_48 rfl ok_K (Nat.le_of_ble_eq_true rfl) fk_K_18 hK rfl ?_
      refine wp_bipush (q := 53) (v := 10) d_K_listArcs_51 rfl (by decide) ?_
      refine wp_icmp_ge (q := 56) (tgt := 86) d_K_listArcs_53 (by decide) rfl (fun c53 => absurd c53 (by rw [show (10 : Int32) = nI 10 from rfl]; exact nI_ge hlt (by decide))) (fun _ => ?_)
      refine wp_aload_n (q := 57) d_K_listArcs_56 rfl rfl rfl ?_
      refine wp_get (q := 60) (k := 2) d_K_listArcs_57 rfl ok_K (Nat.le_of_ble_eq_true rfl) fk_K_22 hK rfl ?_
      refine wp_aload_n (q := 61) d_K_listArcs_60 rfl rfl rfl ?_
      refine wp_get (q := 64) (k := 1) d_K_listArcs_61 rfl ok_K (Nat.le_of_ble_eq_true rfl) fk_K_18 hK rfl ?_
      refine wp_iload_n (q := 65) d_K_listArcs_64 rfl rfl rfl ?_
      refine wp_iastoreN (q := 66) d_K_listArcs_65 rfl h24 rfl hlt (by decide) rfl ?_
      refine wp_aload_n (q := 67) d_K_listArcs_66 rfl rfl rfl ?_
      refine wp_get (q := 70) (k := 3) d_K_listArcs_67 rfl ok_K (Nat.le_of_ble_eq_true rfl) fk_K_26 (am_at_ne (by decide) hK) rfl ?_
      refine wp_aload_n (q := 71) d_K_listArcs_70 rfl rfl rfl ?_
      refine wp_get (q := 74) (k := 1) d_K_listArcs_71 rfl ok_K (Nat.le_of_ble_eq_true rfl) fk_K_18 (am_at_ne (by decide) hK) rfl ?_
      refine wp_iload_n (q := 75) d_K_listArcs_74 rfl rfl rfl ?_
      refine wp_iastoreN (q := 76) d_K_listArcs_75 rfl (am_at_ne (by decide) h25) rfl hlt (by decide) rfl ?_
      refine wp_aload_n (q := 77) d_K_listArcs_76 rfl rfl rfl ?_
      refine wp_dup (q := 78) d_K_listArcs_77 rfl rfl ?_
      refine wp_get (q := 81) (k := 1) d_K_listArcs_78 rfl ok_K (Nat.le_of_ble_eq_true rfl) fk_K_18 (am_at_ne (by decide) (am_at_ne (by decide) hK)) rfl ?_
      refine wp_iconst (q := 82) (v := 1) d_K_listArcs_81 rfl (by decide) ?_
      refine wp_iadd (q := 83) d_K_listArcs_82 rfl ?_
      rw [nI_1]
      refine wp_put (q := 86) (k := 1) d_K_listArcs_83 rfl ok_K (Nat.le_of_ble_eq_true rfl) fk_K_18 rfl am_fit_i (am_at_ne (by decide) (am_at_ne (by decide) hK)) (Nat.le_of_ble_eq_true rfl) rfl ?_
      refine wp_inc1 (q := 89) d_K_listArcs_86 rfl rfl (nI_1 _) (Nat.le_of_ble_eq_true rfl) rfl ?_
      refine wp_goto (tgt := 20) d_K_listArcs_89 (by decide) ?_
      rw [pu_l1_s (c := j), pu_l2_s (p := i)]
      rw [e, ← List.append_assoc] at ih
      refine ih _ (((fr.put (by simp)).put (by simp)).put (by simp)) ?_ (am_at_ne (by decide) (am_at_ne (by decide) (am_at_eq h24))) (am_at_ne (by decide) (am_at_eq (am_at_ne (by decide) h25)))
      rw [show (pu_al C n i ++ pu_row C i j ++ [(i, j)]).length = (pu_al C n i ++ pu_row C i j).length + 1 from List.length_append]
      exact am_at_eq (am_at_ne (a := 25) (by decide) (am_at_ne (a := 24) (by decide) hK))
set_option maxHeartbeats 4000000 in
set_option maxRecDepth 100000 in
theorem c_K_list_L {w : am_W} {x2 x3 : Int32} {n k : Nat} {P C : Nat → Nat} (hG : GI 21 22 23 n k P C w) (hn : n ≤ 8) (hC : ∀ i, C i < 256) (hlen : (pu_al C n n).length ≤ 10) {f1 f2 : Nat → Int32} : ∀ i, i ≤ n → ∀ w1, am_fr [20, 24, 25] w w1 → w1[20]? = some (.inr (2, [.ref 21, .int (nI (pu_al C n i).length), .ref 24, .ref 25, .ref 26, .int x2, .int x3])) → w1[24]? = some (.inl (0, 10, .inl (pu_l1 (pu_al C n i) f1))) → w1[25]? = some (.inl (0, 10, .inl (pu_l2 (pu_al C n i) f2))) → am_Wp none m_K_listArcs 1 0 0 7 [(0, .ref 20), (1, .int (nI i))] [] w1 (fun v w1 => v = none ∧ am_fr [20, 24, 25] w w1 ∧ w1[20]? = some (.inr (2, [.ref 21, .int (nI (pu_al C n n).length), .ref 24, .ref 25, .ref 26, .int x2, .int x3])) ∧ KL (pu_al C n n) w1) := by
  refine pu_up (P := fun i => ∀ w1, am_fr [20, 24, 25] w w1 → w1[20]? = some (.inr (2, [.ref 21, .int (nI (pu_al C n i).length), .ref 24, .ref 25, .ref 26, .int x2, .int x3])) → w1[24]? = some (.inl (0, 10, .inl (pu_l1 (pu_al C n i) f1))) → w1[25]? = some (.inl (0, 10, .inl (pu_l2 (pu_al C n i) f2))) → am_Wp none m_K_listArcs 1 0 0 7 [(0, .ref 20), (1, .int (nI i))] [] w1 (fun v w1 => v = none ∧ am_fr [20, 24, 25] w w1 ∧ w1[20]? = some (.inr (2, [.ref 21, .int (nI (pu_al C n n).length), .ref 24, .ref 25, .ref 26, .int x2, .int x3])) ∧ KL (pu_al C n n) w1)) ?_ ?_
  · intro w1 fr hK h24 h25
    have hG1 := hG.at fr (by decide) (by decide) (by decide)
    refine wp_iload_n (q := 8) d_K_listArcs_7 rfl rfl rfl ?_
    refine wp_aload_n (q := 9) d_K_listArcs_8 rfl rfl rfl ?_
    refine wp_get (q := 12) (k := 0) d_K_listArcs_9 rfl ok_K (Nat.le_of_ble_eq_true rfl) fk_K_12 hK rfl ?_
    refine wp_getN (q := 15) (k := 0) d_K_listArcs_12 rfl ok_G (Nat.le_of_ble_eq_true rfl) fk_K_55 hG1.1 rfl ?_
    refine wp_icmp_ge (q := 18) (tgt := 98) d_K_listArcs_15 (by decide) rfl (fun _ => ?_) (fun c15 => absurd (nI_le (Nat.le_refl n) (by omega)) c15)
    exact wp_return rfl d_K_listArcs_98 ⟨rfl, fr, hK, _, _, h24, h25⟩
  · intro i hi ih w1 fr hK h24 h25
    have hG1 := hG.at fr (by decide) (by decide) (by decide)
    refine wp_iload_n (q := 8) d_K_listArcs_7 rfl rfl rfl ?_
    refine wp_aload_n (q := 9) d_K_listArcs_8 rfl rfl rfl ?_
    refine wp_get (q := 12) (k := 0) d_K_listArcs_9 rfl ok_K (Nat.le_of_ble_eq_true rfl) fk_K_12 hK rfl ?_
    refine wp_getN (q := 15) (k := 0) d_K_listArcs_12 rfl ok_G (Nat.le_of_ble_eq_true rfl) fk_K_55 hG1.1 rfl ?_
    refine wp_icmp_ge (q := 18) (tgt := 98) d_K_listArcs_15 (by decide) rfl (fun c15 => absurd c15 (nI_ge hi (by omega))) (fun _ => ?_)
    refine wp_iconst (q := 19) (v := 0) d_K_listArcs_18 rfl (by decide) ?_
    refine wp_istore_n (q := 20) d_K_listArcs_19 rfl rfl (Nat.le_of_ble_eq_true rfl) rfl ?_
    refine c_K_list_L2 hG hn hC hlen hi (fun w2 fr2 hK2 g24 g25 => ?_) 0 (Nat.zero_le _) w1 fr (by rw [show pu_al C n i ++ pu_row C i 0 = pu_al C n i from List.append_nil _]; exact hK) (by rw [show pu_al C n i ++ pu_row C i 0 = pu_al C n i from List.append_nil _]; exact h24) (by rw [show pu_al C n i ++ pu_row C i 0 = pu_al C n i from List.append_nil _]; exact h25)
    refine wp_inc1 (q := 95) d_K_listArcs_92 rfl rfl (nI_1 _) (Nat.le_of_ble_eq_true rfl) rfl ?_
    refine wp_goto (tgt := 7) d_K_listArcs_95 (by decide) ?_
    refine wp_lo [(0, .ref 20), (1, .int (nI (i + 1)))] ⟨rfl, rfl, trivial⟩ ?_
    exact ih w2 fr2 hK2 g24 g25
set_option maxHeartbeats 4000000 in
set_option maxRecDepth 100000 in
theorem c_K_list {w : am_W} {x2 x3 : Int32} {n k : Nat} {P C : Nat → Nat} (hG : GI 21 22 23 n k P C w) (hn : n ≤ 8) (hC : ∀ i, C i < 256) (hlen : (pu_al C n n).length ≤ 10) {x1 : Int32} (hK : w[20]? = some (.inr (2, [.ref 21, .int x1, .ref 24, .ref 25, .ref 26, .int x2, .int x3]))) {f1 f2 : Nat → Int32} (h24 : w[24]? = some (.inl (0, 10, .inl f1))) (h25 : w[25]? = some (.inl (0, 10, .inl f2))) : am_Wp none m_K_listArcs 1 0 0 0 [(0, .ref 20)] [] w (fun v w1 => v = none ∧ am_fr [20, 24, 25] w w1 ∧ w1[20]? = some (.inr (2, [.ref 21, .int (nI (pu_al C n n).length), .ref 24, .ref 25, .ref 26, .int x2, .int x3])) ∧ KL (pu_al C n n) w1) := by
  refine wp_aload_n (q := 1) d_K_listArcs_0 rfl rfl rfl ?_
  refine wp_iconst (q := 2) (v := 0) d_K_listArcs_1 rfl (by decide) ?_
  refine wp_put (q := 5) (k := 1) d_K_listArcs_2 rfl ok_K (Nat.le_of_ble_eq_true rfl) fk_K_18 rfl am_fit_i hK (Nat.le_of_ble_eq_true rfl) rfl ?_
  refine wp_iconst (q := 6) (v := 0) d_K_listArcs_5 rfl (by decide) ?_
  refine wp_istore_n (q := 7) d_K_listArcs_6 rfl rfl (Nat.le_of_ble_eq_true rfl) rfl ?_
  exact c_K_list_L hG hn hC hlen 0 (Nat.zero_le _) _ (am_fr.rf.put (by simp)) (am_at_eq hK) (am_at_ne (by decide) h24) (am_at_ne (by decide) h25)
set_option maxHeartbeats 4000000 in
set_option maxRecDepth 100000 in
theorem c_K_isTurned_L {w : am_W} {L : List (Nat × Nat)} {fo tu : Nat} (hK : KO L.length fo tu w) (hL : KL L w) (hl : L.length ≤ 10) (htu : tu < 1024) (hq : ∀ (i : Nat) (q : Nat × Nat), L[i]? = some q → q.1 < 8 ∧ q.2 < 8) {p c : Nat} (hp : p < 8) (hc : c < 8) : ∀ (k i : Nat), i + k = L.length → am_Wp none m_K_isTurned 1 0 0 2 [(0, .ref 20), (1, .int (nI p)), (2, .int (nI c)), (3, .int (nI i))] [] w (am_R (some (.int (pu_b (pu_it L tu p c k i)))) w) := by
  obtain ⟨f1, f2, e1, e2⟩ := hL
  intro k
  induction k with
  | zero =>
    intro i hi
    refine wp_iload_n (q := 3) d_K_isTurned_2 rfl rfl rfl ?_
    refine wp_aload_n (q := 4) d_K_isTurned_3 rfl rfl rfl ?_
    refine wp_get (q := 7) (k := 1) d_K_isTurned_4 rfl ok_K (Nat.le_of_ble_eq_true rfl) fk_K_18 hK rfl ?_
    refine wp_icmp_ge (q := 10) (tgt := 45) d_K_isTurned_7 (by decide) rfl (fun _ => ?_) (fun c7 => absurd (nI_le (by omega) (by omega)) c7)
    refine wp_iconst (q := 46) (v := 0) d_K_isTurned_45 rfl (by decide) ?_
    exact wp_zreturn rfl rfl d_K_isTurned_46 ⟨rfl, rfl⟩
  | succ k ih =>
    intro i hi
    obtain ⟨q, hx⟩ : ∃ q, L[i]? = some q := ⟨_, List.getElem?_eq_getElem (by omega)⟩
    have hq1 := hq i q hx
    refine wp_iload_n (q := 3) d_K_isTurned_2 rfl rfl rfl ?_
    refine wp_aload_n (q := 4) d_K_isTurned_3 rfl rfl rfl ?_
    refine wp_get (q := 7) (k := 1) d_K_isTurned_4 rfl ok_K (Nat.le_of_ble_eq_true rfl) fk_K_18 hK rfl ?_
    refine wp_icmp_ge (q := 10) (tgt := 45) d_K_isTurned_7 (by decide) rfl (fun c7 => absurd c7 (nI_ge (by omega) (by omega))) (fun _ => ?_)
    refine wp_aload_n (q := 11) d_K_isTurned_10 rfl rfl rfl ?_
    refine wp_get (q := 14) (k := 2) d_K_isTurned_11 rfl ok_K (Nat.le_of_ble_eq_true rfl) fk_K_22 hK rfl ?_
    refine wp_iload_n (q := 15) d_K_isTurned_14 rfl rfl rfl ?_
    refine wp_ialoadN (q := 16) d_K_isTurned_15 rfl e1 rfl (by omega) (by decide) ?_
    rw [pu_l1_at hx]
    refine wp_iload_n (q := 17) d_K_isTurned_16 rfl rfl rfl ?_
    refine wp_icmp_ne (q := 20) (tgt := 39) d_K_isTurned_17 (by decide) rfl (fun c17 => ?_) (fun c17 => ?_)
    · refine wp_inc1 (q := 42) d_K_isTurned_39 rfl rfl (nI_1 _) (Nat.le_of_ble_eq_true rfl) rfl ?_
      refine wp_goto (tgt := 2) d_K_isTurned_42 (by decide) ?_
      have hne : ¬ (L[i]? = some (p, c)) := fun e => by rw [hx] at e; cases e; exact c17 rfl
      have e9 : pu_it L tu p c (k + 1) i = pu_it L tu p c k (i + 1) := by simp only [pu_it]; rw [if_neg hne]
      rw [e9]
      exact ih (i + 1) (by omega)
    · refine wp_aload_n (q := 21) d_K_isTurned_20 rfl rfl rfl ?_
      refine wp_get (q := 24) (k := 3) d_K_isTurned_21 rfl ok_K (Nat.le_of_ble_eq_true rfl) fk_K_26 hK rfl ?_
      refine wp_iload_n (q := 25) d_K_isTurned_24 rfl rfl rfl ?_
      refine wp_ialoadN (q := 26) d_K_isTurned_25 rfl e2 rfl (by omega) (by decide) ?_
      rw [pu_l2_at hx]
      refine wp_iload_n (q := 27) d_K_isTurned_26 rfl rfl rfl ?_
      refine wp_icmp_ne (q := 30) (tgt := 39) d_K_isTurned_27 (by decide) rfl (fun c27 => ?_) (fun c27 => ?_)
      · refine wp_inc1 (q := 42) d_K_isTurned_39 rfl rfl (nI_1 _) (Nat.le_of_ble_eq_true rfl) rfl ?_
        refine wp_goto (tgt := 2) d_K_isTurned_42 (by decide) ?_
        have hne : ¬ (L[i]? = some (p, c)) := fun e => by rw [hx] at e; cases e; exact c27 rfl
        have e9 : pu_it L tu p c (k + 1) i = pu_it L tu p c k (i + 1) := by simp only [pu_it]; rw [if_neg hne]
        rw [e9]
        exact ih (i + 1) (by omega)
      · refine wp_aload_n (q := 31) d_K_isTurned_30 rfl rfl rfl ?_
        refine wp_get (q := 34) (k := 6) d_K_isTurned_31 rfl ok_K (Nat.le_of_ble_eq_true rfl) fk_K_35 hK rfl ?_
        refine wp_iload_n (q := 35) d_K_isTurned_34 rfl rfl rfl ?_
        refine wp_cSN2r (q := 38) d_K_isTurned_35 rfl bd_X_has lk_K_61 sm_X_has (Nat.le_of_ble_eq_true rfl) (Nat.le_of_ble_eq_true rfl) (Nat.le_of_ble_eq_true rfl) (c_has (by omega) (by omega)) ?_
        exact wp_zreturn rfl (by cases (tu.testBit i) <;> rfl) d_K_isTurned_38 ⟨by simp only [pu_it]; rw [if_pos (by rw [hx]; exact congrArg some (Prod.ext (pu_nI_inj (by omega) (by omega) c17) (pu_nI_inj (by omega) (by omega) c27)))], rfl⟩
set_option maxHeartbeats 4000000 in
set_option maxRecDepth 100000 in
theorem c_K_isTurned {w : am_W} {L : List (Nat × Nat)} {fo tu : Nat} (hK : KO L.length fo tu w) (hL : KL L w) (hl : L.length ≤ 10) (htu : tu < 1024) (hq : ∀ (i : Nat) (q : Nat × Nat), L[i]? = some q → q.1 < 8 ∧ q.2 < 8) {p c : Nat} (hp : p < 8) (hc : c < 8) : am_Wp none m_K_isTurned 1 0 0 0 [(0, .ref 20), (1, .int (nI p)), (2, .int (nI c))] [] w (am_R (some (.int (pu_b (pu_it L tu p c L.length 0)))) w) := by
  refine wp_iconst (q := 1) (v := 0) d_K_isTurned_0 rfl (by decide) ?_
  refine wp_istore_n (q := 2) d_K_isTurned_1 rfl rfl (Nat.le_of_ble_eq_true rfl) rfl ?_
  exact c_K_isTurned_L hK hL hl htu hq hp hc L.length 0 (by omega)
set_option maxHeartbeats 4000000 in
set_option maxRecDepth 100000 in
theorem c_K_meets {w : am_W} {L : List (Nat × Nat)} {n k : Nat} {P C : Nat → Nat} {s : pu_S} (hK : KK L n k P C s w) (hP : ∀ i, P i < 256) (hs : pu_ok s) {p c : Nat} (hp : p < 8) (hc : c < 8) : am_Wp none m_K_meetsAsFirst 2 0 0 0 [(0, .ref 20), (1, .int (nI p)), (2, .int (nI c))] [] w (am_R (some (.int (pu_b (pu_mf P C s.1 p c)))) w) := by
  refine wp_aload_n (q := 1) d_K_meetsAsFirst_0 rfl rfl rfl ?_
  refine wp_get (q := 4) (k := 4) d_K_meetsAsFirst_1 rfl ok_K (Nat.le_of_ble_eq_true rfl) fk_K_29 hK.1 rfl ?_
  refine wp_iload_n (q := 5) d_K_meetsAsFirst_4 rfl rfl rfl ?_
  refine wp_ialoadN (q := 6) d_K_meetsAsFirst_5 rfl hK.2.2.2 rfl hc (by decide) ?_
  refine wp_aload_n (q := 7) d_K_meetsAsFirst_6 rfl rfl rfl ?_
  refine wp_get (q := 10) (k := 0) d_K_meetsAsFirst_7 rfl ok_K (Nat.le_of_ble_eq_true rfl) fk_K_12 hK.1 rfl ?_
  refine wp_iload_n (q := 11) d_K_meetsAsFirst_10 rfl rfl rfl ?_
  refine wp_cVN1r (q := 14) d_K_meetsAsFirst_11 rfl bd_G_neighbours lk_K_84 im_G_neighbours se_G_neighbours rfl (Nat.le_of_ble_eq_true rfl) (Nat.le_of_ble_eq_true rfl) hK.2.2.1.1 (Nat.le_of_ble_eq_true rfl) (c_G_neighbours hK.2.2.1 hp) ?_
  refine wp_iconst (q := 15) (v := -1) d_K_meetsAsFirst_14 rfl (by decide) ?_
  refine wp_ixor (q := 16) d_K_meetsAsFirst_15 rfl ?_
  refine wp_iand (q := 17) d_K_meetsAsFirst_16 rfl ?_
  rw [pu_not]
  refine wp_istore_n (q := 18) d_K_meetsAsFirst_17 rfl rfl (Nat.le_of_ble_eq_true rfl) rfl ?_
  refine wp_iload_n (q := 19) d_K_meetsAsFirst_18 rfl rfl rfl ?_
  refine wp_aload_n (q := 20) d_K_meetsAsFirst_19 rfl rfl rfl ?_
  refine wp_get (q := 23) (k := 0) d_K_meetsAsFirst_20 rfl ok_K (Nat.le_of_ble_eq_true rfl) fk_K_12 hK.1 rfl ?_
  refine wp_iload_n (q := 24) d_K_meetsAsFirst_23 rfl rfl rfl ?_
  refine wp_iload_n (q := 25) d_K_meetsAsFirst_24 rfl rfl rfl ?_
  refine wp_cVN2r (q := 28) d_K_meetsAsFirst_25 rfl bd_G_strangers lk_K_69 im_G_strangers se_G_strangers rfl (Nat.le_of_ble_eq_true rfl) (Nat.le_of_ble_eq_true rfl) hK.2.2.1.1 (Nat.le_of_ble_eq_true rfl) (c_G_strangers hK.2.2.1 hP hp hc) ?_
  refine wp_iconst (q := 29) (v := -1) d_K_meetsAsFirst_28 rfl (by decide) ?_
  refine wp_ixor (q := 30) d_K_meetsAsFirst_29 rfl ?_
  refine wp_iand (q := 31) d_K_meetsAsFirst_30 rfl ?_
  rw [pu_not]
  refine wp_if_ne (q := 34) (tgt := 38) d_K_meetsAsFirst_31 (by decide) rfl (fun c31 => ?_) (fun c31 => ?_)
  · refine wp_iconst (q := 39) (v := 0) d_K_meetsAsFirst_38 rfl (by decide) ?_
    exact wp_zreturn rfl rfl d_K_meetsAsFirst_39 ⟨by unfold pu_mf; rw [decide_eq_false (fun e => c31 (by rw [e]; exact nI_0))]; rfl, rfl⟩
  · refine wp_iconst (q := 35) (v := 1) d_K_meetsAsFirst_34 rfl (by decide) ?_
    refine wp_goto (tgt := 39) d_K_meetsAsFirst_35 (by decide) ?_
    exact wp_zreturn rfl rfl d_K_meetsAsFirst_39 ⟨by unfold pu_mf; rw [decide_eq_true (pu_nI_inj (Nat.lt_trans (pu_dif_lt (pu_dif_lt (hs c))) (by decide)) (by decide) (c31.trans nI_0.symm))]; rfl, rfl⟩
set_option maxHeartbeats 4000000 in
set_option maxRecDepth 100000 in
theorem c_K_one {w : am_W} {L : List (Nat × Nat)} {n k : Nat} {P C : Nat → Nat} {s : pu_S} (hK : KK L n k P C s w) (hP : ∀ i, P i < 256) (hs : pu_ok s) {i p c ts dd : Nat} {go : pu_S → pu_S} (hp : p < 8) (hc : c < 8) (hdd : 2 ≤ dd) (hgo : ∀ s, pu_ok s → pu_ok (go s)) (h : ∀ (s : pu_S) {w : am_W}, KK L n k P C s w → pu_ok s → am_Wp none m_K_direct dd 0 0 0 [(0, .ref 20), (1, .int (nI (i + 1))), (2, .int (nI ts))] [] w (fun v w1 => v = none ∧ am_fr [20, 26] w w1 ∧ KK L n k P C (go s) w1)) : am_Wp none m_K_directOne (dd + 1) 0 0 0 [(0, .ref 20), (1, .int (nI i)), (2, .int (nI p)), (3, .int (nI c)), (4, .int (nI ts))] [] w (fun v w1 => v = none ∧ am_fr [20, 26] w w1 ∧ KK L n k P C (pu_one P C go p c s) w1) := by
  refine wp_aload_n (q := 1) d_K_directOne_0 rfl rfl rfl ?_
  refine wp_iload_n (q := 2) d_K_directOne_1 rfl rfl rfl ?_
  refine wp_iload_n (q := 3) d_K_directOne_2 rfl rfl rfl ?_
  refine wp_cV2r (q := 6) d_K_directOne_3 rfl bd_K_meetsAsFirst lk_K_77 im_K_meetsAsFirst se_K_meetsAsFirst rfl (Nat.le_of_ble_eq_true rfl) (Nat.le_of_ble_eq_true rfl) hK.1 (by omega) (c_K_meets hK hP hs hp hc) ?_
  refine wp_if_eq (q := 9) (tgt := 27) d_K_directOne_6 (by decide) rfl (fun c6 => ?_) (fun c6 => ?_)
  · exact wp_return rfl d_K_directOne_27 ⟨rfl, am_fr.rf, by unfold pu_one pu_may; rw [pu_b0.mp c6]; exact hK⟩
  · refine wp_aload_n (q := 10) d_K_directOne_9 rfl rfl rfl ?_
    refine wp_get (q := 13) (k := 4) d_K_directOne_10 rfl ok_K (Nat.le_of_ble_eq_true rfl) fk_K_29 hK.1 rfl ?_
    refine wp_iload_n (q := 14) d_K_directOne_13 rfl rfl rfl ?_
    refine wp_cSN1r (q := 17) d_K_directOne_14 rfl bd_X_bit lk_K_73 sm_X_bit (Nat.le_of_ble_eq_true rfl) (Nat.le_of_ble_eq_true rfl) (by omega) (c_bit (by omega)) ?_
    refine wp_cSN2r (q := 20) d_K_directOne_17 rfl bd_X_closure lk_K_80 sm_X_closure (Nat.le_of_ble_eq_true rfl) (Nat.le_of_ble_eq_true rfl) (by omega) (c_closure hK.2.2.2 (by decide) hs (pu_p2 hp)) ?_
    refine wp_iload_n (q := 21) d_K_directOne_20 rfl rfl rfl ?_
    refine wp_cSN2r (q := 24) d_K_directOne_21 rfl bd_X_has lk_K_61 sm_X_has (Nat.le_of_ble_eq_true rfl) (Nat.le_of_ble_eq_true rfl) (by omega) (c_has (Nat.lt_trans (pu_cl_lt hs (pu_p2 hp)) (by decide)) (by omega)) ?_
    refine wp_if_eq (q := 27) (tgt := 28) d_K_directOne_24 (by decide) rfl (fun c24 => ?_) (fun c24 => ?_)
    · have hm : pu_may P C s.1 p c = true := by unfold pu_may; rw [pu_b1 c6, pu_b0.mp c24]; rfl
      refine wp_aload_n (q := 29) d_K_directOne_28 rfl rfl rfl ?_
      refine wp_get (q := 32) (k := 4) d_K_directOne_29 rfl ok_K (Nat.le_of_ble_eq_true rfl) fk_K_29 hK.1 rfl ?_
      refine wp_iload_n (q := 33) d_K_directOne_32 rfl rfl rfl ?_
      refine wp_dup2 (q := 34) d_K_directOne_33 rfl rfl rfl ?_
      refine wp_ialoadN (q := 35) d_K_directOne_34 rfl hK.2.2.2 rfl hc (by decide) ?_
      refine wp_iload_n (q := 36) d_K_directOne_35 rfl rfl rfl ?_
      refine wp_cSN1r (q := 39) d_K_directOne_36 rfl bd_X_bit lk_K_73 sm_X_bit (Nat.le_of_ble_eq_true rfl) (Nat.le_of_ble_eq_true rfl) (by omega) (c_bit (by omega)) ?_
      refine wp_ior (q := 40) d_K_directOne_39 rfl ?_
      rw [pu_or]
      refine wp_iastoreN (q := 41) d_K_directOne_40 rfl hK.2.2.2 rfl hc (by decide) rfl ?_
      rw [pu_upd]
      have f1 : am_fr [20, 26] w (w.set 26 (am_ar 8 (pu_on s p c).1)) := am_fr.rf.put (by simp)
      have hK1 : KK L n k P C (pu_on s p c) (w.set 26 (am_ar 8 (pu_on s p c).1)) := ⟨am_at_ne (by decide) hK.1, hK.2.1.at (am_fr.rf.put (D := [26]) (by simp)) (by decide) (by decide), hK.2.2.1.at (am_fr.rf.put (D := [26]) (by simp)) (by decide) (by decide) (by decide), am_at_eq hK.2.2.2⟩
      show am_Wp _ _ _ _ _ _ _ _ (w.set 26 (am_ar 8 (pu_on s p c).1)) _
      generalize (w.set 26 (am_ar 8 (pu_on s p c).1)) = w2 at hK1 f1 ⊢
      refine wp_aload_n (q := 42) d_K_directOne_41 rfl rfl rfl ?_
      refine wp_iload_n (q := 43) d_K_directOne_42 rfl rfl rfl ?_
      refine wp_iconst (q := 44) (v := 1) d_K_directOne_43 rfl (by decide) ?_
      refine wp_iadd (q := 45) d_K_directOne_44 rfl ?_
      rw [nI_1]
      refine wp_iload (q := 47) d_K_directOne_45 rfl rfl ?_
      refine wp_cV2g (q := 50) (bc1 := 0) (bs1 := 0) d_K_directOne_47 rfl bd_K_direct lk_K_51 im_K_direct se_K_direct rfl (Nat.le_of_ble_eq_true rfl) (Nat.le_of_ble_eq_true rfl) hK1.1 (Nat.le_refl _) (h (pu_on s p c) hK1 (pu_on_ok hs hp)) (fun v w1 hF => ?_)
      obtain ⟨rfl, f2, hK2⟩ := hF
      have f3 := f1.tr f2
      have hs2 := hgo _ (pu_on_ok (c := c) hs hp)
      refine wp_aload_n (q := 51) d_K_directOne_50 rfl rfl rfl ?_
      refine wp_get (q := 54) (k := 4) d_K_directOne_51 rfl ok_K (Nat.le_of_ble_eq_true rfl) fk_K_29 hK2.1 rfl ?_
      refine wp_iload_n (q := 55) d_K_directOne_54 rfl rfl rfl ?_
      refine wp_dup2 (q := 56) d_K_directOne_55 rfl rfl rfl ?_
      refine wp_ialoadN (q := 57) d_K_directOne_56 rfl hK2.2.2.2 rfl hc (by decide) ?_
      refine wp_iload_n (q := 58) d_K_directOne_57 rfl rfl rfl ?_
      refine wp_cSN1r (q := 61) d_K_directOne_58 rfl bd_X_bit lk_K_73 sm_X_bit (Nat.le_of_ble_eq_true rfl) (Nat.le_of_ble_eq_true rfl) (by omega) (c_bit (by omega)) ?_
      refine wp_iconst (q := 62) (v := -1) d_K_directOne_61 rfl (by decide) ?_
      refine wp_ixor (q := 63) d_K_directOne_62 rfl ?_
      refine wp_iand (q := 64) d_K_directOne_63 rfl ?_
      rw [pu_not]
      refine wp_iastoreN (q := 65) d_K_directOne_64 rfl hK2.2.2.2 rfl hc (by decide) rfl ?_
      rw [pu_upd]
      exact wp_return rfl d_K_directOne_65 ⟨rfl, f3.put (by simp), by unfold pu_one; rw [if_pos hm]; exact ⟨am_at_ne (by decide) hK2.1, hK2.2.1.at (am_fr.rf.put (D := [26]) (by simp)) (by decide) (by decide), hK2.2.2.1.at (am_fr.rf.put (D := [26]) (by simp)) (by decide) (by decide) (by decide), am_at_eq hK2.2.2.2⟩⟩
    · exact wp_return rfl d_K_directOne_27 ⟨rfl, am_fr.rf, by unfold pu_one pu_may; rw [pu_b1 c24]; simp only [Bool.not_true, Bool.and_false]; exact hK⟩
set_option maxHeartbeats 4000000 in
set_option maxRecDepth 100000 in
theorem c_K_direct {L : List (Nat × Nat)} {n k : Nat} {P C : Nat → Nat} (hP : ∀ i, P i < 256) (hl : L.length ≤ 10) (hq : ∀ (i : Nat) (q : Nat × Nat), L[i]? = some q → q.1 < 8 ∧ q.2 < 8) : ∀ (r ts : Nat) (s : pu_S) {w : am_W}, r ≤ L.length → KK L n k P C s w → pu_ok s → am_Wp none m_K_direct (2 * r + 4) 0 0 0 [(0, .ref 20), (1, .int (nI (L.length - r))), (2, .int (nI ts))] [] w (fun v w1 => v = none ∧ am_fr [20, 26] w w1 ∧ KK L n k P C (pu_dr P C L r ts s) w1) := by
  intro r
  induction r with
  | zero =>
    intro ts s w hr hK hs
    refine wp_iload_n (q := 1) d_K_direct_0 rfl rfl rfl ?_
    refine wp_aload_n (q := 2) d_K_direct_1 rfl rfl rfl ?_
    refine wp_get (q := 5) (k := 1) d_K_direct_2 rfl ok_K (Nat.le_of_ble_eq_true rfl) fk_K_18 hK.1 rfl ?_
    refine wp_icmp_lt (q := 8) (tgt := 29) d_K_direct_5 (by decide) rfl (fun c5 => absurd c5 (by rw [Nat.sub_zero]; exact nI_nlt (Nat.le_refl _) (by omega))) (fun _ => ?_)
    refine wp_aload_n (q := 9) d_K_direct_8 rfl rfl rfl ?_
    refine wp_dup (q := 10) d_K_direct_9 rfl rfl ?_
    refine wp_get (q := 13) (k := 5) d_K_direct_10 rfl ok_K (Nat.le_of_ble_eq_true rfl) fk_K_32 hK.1 rfl ?_
    refine wp_iconst (q := 14) (v := 1) d_K_direct_13 rfl (by decide) ?_
    refine wp_iadd (q := 15) d_K_direct_14 rfl ?_
    rw [nI_1]
    refine wp_put (q := 18) (k := 5) d_K_direct_15 rfl ok_K (Nat.le_of_ble_eq_true rfl) fk_K_32 rfl am_fit_i hK.1 (Nat.le_of_ble_eq_true rfl) rfl ?_
    refine wp_aload_n (q := 19) d_K_direct_18 rfl rfl rfl ?_
    refine wp_dup (q := 20) d_K_direct_19 rfl rfl ?_
    refine wp_get (q := 23) (k := 6) d_K_direct_20 rfl ok_K (Nat.le_of_ble_eq_true rfl) fk_K_35 (am_at_eq hK.1) rfl ?_
    refine wp_iload_n (q := 24) d_K_direct_23 rfl rfl rfl ?_
    refine wp_ior (q := 25) d_K_direct_24 rfl ?_
    rw [pu_or]
    refine wp_put (q := 28) (k := 6) d_K_direct_25 rfl ok_K (Nat.le_of_ble_eq_true rfl) fk_K_35 rfl am_fit_i (am_at_eq hK.1) (Nat.le_of_ble_eq_true rfl) rfl ?_
    exact wp_return rfl d_K_direct_28 ⟨rfl, (am_fr.rf.put (by simp)).put (by simp), am_at_eq (am_at_eq hK.1), (hK.2.1.at (am_fr.rf.put (D := [20]) (by simp)) (by decide) (by decide)).at (am_fr.rf.put (D := [20]) (by simp)) (by decide) (by decide), (hK.2.2.1.at (am_fr.rf.put (D := [20]) (by simp)) (by decide) (by decide) (by decide)).at (am_fr.rf.put (D := [20]) (by simp)) (by decide) (by decide) (by decide), am_at_ne (by decide) (am_at_ne (by decide) hK.2.2.2)⟩
  | succ r ih =>
    intro ts s w hr hK hs
    have ih := fun (t : Nat) (s : pu_S) {w : am_W} (hK : KK L n k P C s w) (hs : pu_ok s) => ih t s (by omega) hK hs
    obtain ⟨q, hx⟩ : ∃ q, L[L.length - (r + 1)]? = some q := ⟨_, List.getElem?_eq_getElem (by omega)⟩
    have hq1 := hq _ q hx
    obtain ⟨f1, f2, e1, e2⟩ := hK.2.1
    refine wp_iload_n (q := 1) d_K_direct_0 rfl rfl rfl ?_
    refine wp_aload_n (q := 2) d_K_direct_1 rfl rfl rfl ?_
    refine wp_get (q := 5) (k := 1) d_K_direct_2 rfl ok_K (Nat.le_of_ble_eq_true rfl) fk_K_18 hK.1 rfl ?_
    refine wp_icmp_lt (q := 8) (tgt := 29) d_K_direct_5 (by decide) rfl (fun _ => ?_) (fun c5 => absurd (nI_lt (by omega) (by omega)) c5)
    refine wp_aload_n (q := 30) d_K_direct_29 rfl rfl rfl ?_
    refine wp_get (q := 33) (k := 2) d_K_direct_30 rfl ok_K (Nat.le_of_ble_eq_true rfl) fk_K_22 hK.1 rfl ?_
    refine wp_iload_n (q := 34) d_K_direct_33 rfl rfl rfl ?_
    refine wp_ialoadN (q := 35) d_K_direct_34 rfl e1 rfl (by omega) (by decide) ?_
    rw [pu_l1_at hx]
    refine wp_istore_n (q := 36) d_K_direct_35 rfl rfl (Nat.le_of_ble_eq_true rfl) rfl ?_
    refine wp_aload_n (q := 37) d_K_direct_36 rfl rfl rfl ?_
    refine wp_get (q := 40) (k := 3) d_K_direct_37 rfl ok_K (Nat.le_of_ble_eq_true rfl) fk_K_26 hK.1 rfl ?_
    refine wp_iload_n (q := 41) d_K_direct_40 rfl rfl rfl ?_
    refine wp_ialoadN (q := 42) d_K_direct_41 rfl e2 rfl (by omega) (by decide) ?_
    rw [pu_l2_at hx]
    refine wp_istore (q := 44) d_K_direct_42 rfl (Nat.le_of_ble_eq_true rfl) rfl ?_
    refine wp_aload_n (q := 45) d_K_direct_44 rfl rfl rfl ?_
    refine wp_iload_n (q := 46) d_K_direct_45 rfl rfl rfl ?_
    refine wp_iload_n (q := 47) d_K_direct_46 rfl rfl rfl ?_
    refine wp_iload (q := 49) d_K_direct_47 rfl rfl ?_
    refine wp_iload_n (q := 50) d_K_direct_49 rfl rfl rfl ?_
    refine wp_cV4g (q := 53) (bc1 := 0) (bs1 := 0) d_K_direct_50 rfl bd_K_directOne lk_K_65 im_K_directOne se_K_directOne rfl (Nat.le_of_ble_eq_true rfl) (Nat.le_of_ble_eq_true rfl) hK.1 (by omega) (c_K_one (dd := 2 * r + 4) (go := pu_dr P C L r ts) hK hP hs hq1.1 hq1.2 (by omega) (fun s hs => pu_dr_ok hq r _ s hs) (fun s {w} hK hs => by rw [show L.length - (r + 1) + 1 = L.length - r by omega]; exact ih ts s hK hs)) (fun v w1 hF => ?_)
    obtain ⟨rfl, f1, hK1⟩ := hF
    have hs1 := pu_one_ok (P := P) (C := C) (go := pu_dr P C L r ts) (p := q.1) (c := q.2) hq1.1 (fun s hs => pu_dr_ok hq r ts s hs) hs
    have e9 : pu_dr P C L (r + 1) ts s = (if pu_st P C q.1 q.2 = 0 then pu_one P C (pu_dr P C L r (ts ||| 2 ^ (L.length - (r + 1)))) q.2 q.1 (pu_one P C (pu_dr P C L r ts) q.1 q.2 s) else pu_one P C (pu_dr P C L r ts) q.1 q.2 s) := by rw [pu_dr]; rw [hx]
    rw [e9]
    refine wp_aload_n (q := 54) d_K_direct_53 rfl rfl rfl ?_
    refine wp_get (q := 57) (k := 0) d_K_direct_54 rfl ok_K (Nat.le_of_ble_eq_true rfl) fk_K_12 hK1.1 rfl ?_
    refine wp_iload_n (q := 58) d_K_direct_57 rfl rfl rfl ?_
    refine wp_iload (q := 60) d_K_direct_58 rfl rfl ?_
    refine wp_cVN2r (q := 63) d_K_direct_60 rfl bd_G_strangers lk_K_69 im_G_strangers se_G_strangers rfl (Nat.le_of_ble_eq_true rfl) (Nat.le_of_ble_eq_true rfl) hK1.2.2.1.1 (by omega) (c_G_strangers hK1.2.2.1 hP hq1.1 hq1.2) ?_
    refine wp_if_ne (q := 66) (tgt := 80) d_K_direct_63 (by decide) rfl (fun c63 => ?_) (fun c63 => ?_)
    · rw [if_neg (fun e => c63 (by rw [e]; exact nI_0))]
      exact wp_return rfl d_K_direct_80 ⟨rfl, f1, hK1⟩
    · rw [if_pos (pu_nI_inj (Nat.lt_trans (pu_st_lt hP) (by decide)) (by decide) (c63.trans nI_0.symm))]
      refine wp_aload_n (q := 67) d_K_direct_66 rfl rfl rfl ?_
      refine wp_iload_n (q := 68) d_K_direct_67 rfl rfl rfl ?_
      refine wp_iload (q := 70) d_K_direct_68 rfl rfl ?_
      refine wp_iload_n (q := 71) d_K_direct_70 rfl rfl rfl ?_
      refine wp_iload_n (q := 72) d_K_direct_71 rfl rfl rfl ?_
      refine wp_iload_n (q := 73) d_K_direct_72 rfl rfl rfl ?_
      refine wp_cSN1r (q := 76) d_K_direct_73 rfl bd_X_bit lk_K_73 sm_X_bit (Nat.le_of_ble_eq_true rfl) (Nat.le_of_ble_eq_true rfl) (by omega) (c_bit (by omega)) ?_
      refine wp_ior (q := 77) d_K_direct_76 rfl ?_
      rw [pu_or]
      refine wp_cV4g (q := 80) (bc1 := 0) (bs1 := 0) d_K_direct_77 rfl bd_K_directOne lk_K_65 im_K_directOne se_K_directOne rfl (Nat.le_of_ble_eq_true rfl) (Nat.le_of_ble_eq_true rfl) hK1.1 (by omega) (c_K_one (dd := 2 * r + 4) (go := pu_dr P C L r (ts ||| 2 ^ (L.length - (r + 1)))) hK1 hP hs1 hq1.2 hq1.1 (by omega) (fun s hs => pu_dr_ok hq r _ s hs) (fun s {w} hK hs => by rw [show L.length - (r + 1) + 1 = L.length - r by omega]; exact ih (ts ||| 2 ^ (L.length - (r + 1))) s hK hs)) (fun v w1 hF => ?_)
      obtain ⟨rfl, f2, hK2⟩ := hF
      exact wp_return rfl d_K_direct_80 ⟨rfl, f1.tr f2, hK2⟩
end
section
/-! THE STATE (5): the whole object -/
/-- 1 if it holds, 0 if not -/
noncomputable def pu_q (p : Prop) : Int32 := pu_b (@decide p (Classical.propDecidable p))
theorem pu_q_t {p : Prop} (h : p) : pu_q p = 1 := by
  unfold pu_q
  rw [@decide_eq_true p (Classical.propDecidable p) h]; rfl
theorem pu_q_f {p : Prop} (h : ¬ p) : pu_q p = 0 := by
  unfold pu_q
  rw [@decide_eq_false p (Classical.propDecidable p) h]; rfl
theorem pu_q0 {p : Prop} (h : pu_q p = 0) : ¬ p := fun hp => by rw [pu_q_t hp] at h; exact absurd h (by decide)
theorem pu_q1 {p : Prop} (h : ¬ pu_q p = 0) : p := Classical.byContradiction fun hp => h (pu_q_f hp)
theorem pu_qn (p : Prop) : narrow .boolean (.int (pu_q p)) = .int (pu_q p) := by
  unfold pu_q
  cases @decide p (Classical.propDecidable p) <;> rfl
def PL (n : Nat) (x : Int32) : Prop := ∃ i, i < n ∧ x = nI i
def PR (n : Nat) (x y : Int32) : Prop := ∃ i j, i < n ∧ j < n ∧ i ≠ j ∧ x = nI i ∧ y = nI j
def SE (n : Nat) (s : Int32) : Prop := ∃ t, t < 2 ^ n ∧ s = nI t
def QU (n : Nat) (x y s : Int32) : Prop := ∃ i j t, i < n ∧ j < n ∧ i ≠ j ∧ t < 2 ^ n ∧ x = nI i ∧ y = nI j ∧ s = nI t ∧ t.testBit i = false ∧ t.testBit j = false
def RO (n : Nat) (P : Nat → Nat) (x r : Int32) : Prop := ∃ i j, i < n ∧ j < 2 ^ pu_pop 8 (P i) ∧ x = nI i ∧ r = nI j
/-- X's cells -/
def XI (n k : Nat) (P C : Nat → Nat) (kn kk : Nat) (KP KC : Nat → Nat) (ak : Bool) (E : Nat → Nat → Nat) (hd hv : Nat) (w : am_W) : Prop :=
  w[0]? = some (.inr (0, [.ref 1, .ref 4, .int (pu_b ak), .ref 7, .ref 17, .ref 20, .ref 27, .ref 29, .ref 31, .ref 33])) ∧ GI 1 2 3 n k P C w ∧ GI 4 5 6 kn kk KP KC w ∧ TI hd hv E w ∧ VS w ∧ KS w ∧ MS 27 28 w ∧ MS 29 30 w ∧ MS 31 32 w ∧ MS 33 34 w
/-- what its numbers are like -/
def XW (n k : Nat) (P C : Nat → Nat) (kn kk : Nat) (KP KC : Nat → Nat) (E : Nat → Nat → Nat) (hd hv : Nat) : Prop :=
  n ≤ 8 ∧ k ≤ 10 ∧ (∀ i, P i < 256) ∧ (∀ i, C i < 256) ∧ kn ≤ 8 ∧ (∀ i, KP i < 256) ∧ (∀ i, KC i < 256) ∧ (∀ i j, E i j ≤ 8) ∧ hd < 256 ∧ hv < 256 ∧ (∀ i, i < n → ∀ v, pu_rv (P i) v 8 < 128) ∧ (∀ i, i < n → pu_pop 8 (P i) ≤ 7) ∧ (pu_al C n n).length = k
theorem XI.v {n k : Nat} {P C : Nat → Nat} {kn kk : Nat} {KP KC : Nat → Nat} {ak : Bool} {E : Nat → Nat → Nat} {hd hv : Nat} {w w1 : am_W} (h : XI n k P C kn kk KP KC ak E hd hv w) (f : am_fr [17, 18, 19] w w1) (hV : VS w1) : XI n k P C kn kk KP KC ak E hd hv w1 :=
  ⟨f.at (by decide) h.1, h.2.1.at f (by decide) (by decide) (by decide), h.2.2.1.at f (by decide) (by decide) (by decide), h.2.2.2.1.at f (by decide), hV, h.2.2.2.2.2.1.at f (by decide), h.2.2.2.2.2.2.1.at f (by decide) (by decide), h.2.2.2.2.2.2.2.1.at f (by decide) (by decide), h.2.2.2.2.2.2.2.2.1.at f (by decide) (by decide), h.2.2.2.2.2.2.2.2.2.at f (by decide) (by decide)⟩
theorem XI.k {n k : Nat} {P C : Nat → Nat} {kn kk : Nat} {KP KC : Nat → Nat} {ak : Bool} {E : Nat → Nat → Nat} {hd hv : Nat} {w w1 : am_W} (h : XI n k P C kn kk KP KC ak E hd hv w) (f : am_fr [20, 21, 22, 23, 24, 25, 26] w w1) (hK : KS w1) : XI n k P C kn kk KP KC ak E hd hv w1 :=
  ⟨f.at (by decide) h.1, h.2.1.at f (by decide) (by decide) (by decide), h.2.2.1.at f (by decide) (by decide) (by decide), h.2.2.2.1.at f (by decide), h.2.2.2.2.1.at f (by decide) (by decide) (by decide), hK, h.2.2.2.2.2.2.1.at f (by decide) (by decide), h.2.2.2.2.2.2.2.1.at f (by decide) (by decide), h.2.2.2.2.2.2.2.2.1.at f (by decide) (by decide), h.2.2.2.2.2.2.2.2.2.at f (by decide) (by decide)⟩
theorem XI.m {n k : Nat} {P C : Nat → Nat} {kn kk : Nat} {KP KC : Nat → Nat} {ak : Bool} {E : Nat → Nat → Nat} {hd hv : Nat} {w w1 : am_W} (h : XI n k P C kn kk KP KC ak E hd hv w) (f : am_fr [27, 28, 29, 30, 31, 32, 33, 34] w w1) (h1 : MS 27 28 w1) (h2 : MS 29 30 w1) (h3 : MS 31 32 w1) (h4 : MS 33 34 w1) : XI n k P C kn kk KP KC ak E hd hv w1 :=
  ⟨f.at (by decide) h.1, h.2.1.at f (by decide) (by decide) (by decide), h.2.2.1.at f (by decide) (by decide) (by decide), h.2.2.2.1.at f (by decide), h.2.2.2.2.1.at f (by decide) (by decide) (by decide), h.2.2.2.2.2.1.at f (by decide), h1, h2, h3, h4⟩
/-- the graph changes -/
theorem XI.g {n k : Nat} {P C : Nat → Nat} {kn kk : Nat} {KP KC : Nat → Nat} {ak : Bool} {E : Nat → Nat → Nat} {hd hv : Nat} {w w1 : am_W} {n1 k1 : Nat} {P1 C1 : Nat → Nat} (h : XI n k P C kn kk KP KC ak E hd hv w) (f : am_fr [1, 2, 3] w w1) (hG : GI 1 2 3 n1 k1 P1 C1 w1) : XI n1 k1 P1 C1 kn kk KP KC ak E hd hv w1 :=
  ⟨f.at (by decide) h.1, hG, h.2.2.1.at f (by decide) (by decide) (by decide), h.2.2.2.1.at f (by decide), h.2.2.2.2.1.at f (by decide) (by decide) (by decide), h.2.2.2.2.2.1.at f (by decide), h.2.2.2.2.2.2.1.at f (by decide) (by decide), h.2.2.2.2.2.2.2.1.at f (by decide) (by decide), h.2.2.2.2.2.2.2.2.1.at f (by decide) (by decide), h.2.2.2.2.2.2.2.2.2.at f (by decide) (by decide)⟩
/-- the kept graph changes -/
theorem XI.kp {n k : Nat} {P C : Nat → Nat} {kn kk : Nat} {KP KC : Nat → Nat} {ak : Bool} {E : Nat → Nat → Nat} {hd hv : Nat} {w w1 : am_W} {n1 k1 : Nat} {P1 C1 : Nat → Nat} (h : XI n k P C kn kk KP KC ak E hd hv w) (f : am_fr [4, 5, 6] w w1) (hG : GI 4 5 6 n1 k1 P1 C1 w1) : XI n k P C n1 k1 P1 C1 ak E hd hv w1 :=
  ⟨f.at (by decide) h.1, h.2.1.at f (by decide) (by decide) (by decide), hG, h.2.2.2.1.at f (by decide), h.2.2.2.2.1.at f (by decide) (by decide) (by decide), h.2.2.2.2.2.1.at f (by decide), h.2.2.2.2.2.2.1.at f (by decide) (by decide), h.2.2.2.2.2.2.2.1.at f (by decide) (by decide), h.2.2.2.2.2.2.2.2.1.at f (by decide) (by decide), h.2.2.2.2.2.2.2.2.2.at f (by decide) (by decide)⟩
/-- the tables change -/
theorem XI.t {n k : Nat} {P C : Nat → Nat} {kn kk : Nat} {KP KC : Nat → Nat} {ak : Bool} {E : Nat → Nat → Nat} {hd hv : Nat} {w w1 : am_W} {h1 h2 : Nat} {E1 : Nat → Nat → Nat} (h : XI n k P C kn kk KP KC ak E hd hv w) (f : am_fr [7, 9, 10, 11, 12, 13, 14, 15, 16] w w1) (hT : TI h1 h2 E1 w1) : XI n k P C kn kk KP KC ak E1 h1 h2 w1 :=
  ⟨f.at (by decide) h.1, h.2.1.at f (by decide) (by decide) (by decide), h.2.2.1.at f (by decide) (by decide) (by decide), hT, h.2.2.2.2.1.at f (by decide) (by decide) (by decide), h.2.2.2.2.2.1.at f (by decide), h.2.2.2.2.2.2.1.at f (by decide) (by decide), h.2.2.2.2.2.2.2.1.at f (by decide) (by decide), h.2.2.2.2.2.2.2.2.1.at f (by decide) (by decide), h.2.2.2.2.2.2.2.2.2.at f (by decide) (by decide)⟩
/-- the object itself changes -/
theorem XI.o {n k : Nat} {P C : Nat → Nat} {kn kk : Nat} {KP KC : Nat → Nat} {ak : Bool} {E : Nat → Nat → Nat} {hd hv : Nat} {w w1 : am_W} {b : Bool} (h : XI n k P C kn kk KP KC ak E hd hv w) (f : am_fr [0] w w1) (h0 : w1[0]? = some (.inr (0, [.ref 1, .ref 4, .int (pu_b b), .ref 7, .ref 17, .ref 20, .ref 27, .ref 29, .ref 31, .ref 33]))) : XI n k P C kn kk KP KC b E hd hv w1 :=
  ⟨h0, h.2.1.at f (by decide) (by decide) (by decide), h.2.2.1.at f (by decide) (by decide) (by decide), h.2.2.2.1.at f (by decide), h.2.2.2.2.1.at f (by decide) (by decide) (by decide), h.2.2.2.2.2.1.at f (by decide), h.2.2.2.2.2.2.1.at f (by decide) (by decide), h.2.2.2.2.2.2.2.1.at f (by decide) (by decide), h.2.2.2.2.2.2.2.2.1.at f (by decide) (by decide), h.2.2.2.2.2.2.2.2.2.at f (by decide) (by decide)⟩
/-- a row of the tables is filled -/
def pu_setE (E : Nat → Nat → Nat) (i : Nat) (r : Nat → Nat) : Nat → Nat → Nat := fun a => if a = i then r else E a
theorem TI.row {hd hv : Nat} {E : Nat → Nat → Nat} {w : am_W} (h : TI hd hv E w) {i : Nat} (hi : i < 8) (r : Nat → Nat) : TI hd hv (pu_setE E i r) (w.set (9 + i) (am_ar 128 r)) := by
  refine ⟨am_at_ne (by omega) h.1, am_at_ne (by omega) h.2.1, fun j hj => ?_⟩
  unfold pu_setE
  by_cases e : j = i
  · subst e
    rw [if_pos rfl]
    exact am_at_eq (h.2.2 j hj)
  · rw [if_neg e]
    exact am_at_ne (by omega) (h.2.2 j hj)
theorem am_frow {w : am_W} {i : Nat} (hi : i < 8) {c : am_C} : am_fr [7, 9, 10, 11, 12, 13, 14, 15, 16] w (w.set (9 + i) c) := am_fr.rf.put (by
  rcases (show i = 0 ∨ i = 1 ∨ i = 2 ∨ i = 3 ∨ i = 4 ∨ i = 5 ∨ i = 6 ∨ i = 7 by omega) with rfl | rfl | rfl | rfl | rfl | rfl | rfl | rfl <;> simp)
/-- the cells of X -/
def DX : List Nat := List.range 35
theorem am_fr.x {D : List Nat} {w w1 : am_W} (f : am_fr D w w1) (h : ∀ i, i ∈ D → i < 35) : am_fr DX w w1 := f.up (fun i hi => List.mem_range.mpr (h i hi))
end
section
/-! CONTRACTS of X's helpers -/
set_option maxHeartbeats 4000000 in
set_option maxRecDepth 100000 in
theorem c_isPlace {n k : Nat} {P C : Nat → Nat} {kn kk : Nat} {KP KC : Nat → Nat} {ak : Bool} {E : Nat → Nat → Nat} {hd hv : Nat} {w : am_W} (hX : XI n k P C kn kk KP KC ak E hd hv w) (hn : n ≤ 8) {x : Int32} : am_Wp none m_X_isPlace 0 0 0 0 [(0, .ref 0), (1, .int x)] [] w (am_R (some (.int (pu_q (PL n x)))) w) := by
  refine wp_iload_n (q := 1) d_X_isPlace_0 rfl rfl rfl ?_
  refine wp_if_lt (q := 4) (tgt := 19) d_X_isPlace_1 (by decide) rfl (fun c1 => ?_) (fun c1 => ?_)
  · refine wp_iconst (q := 20) (v := 0) d_X_isPlace_19 rfl (by decide) ?_
    exact wp_zreturn rfl rfl d_X_isPlace_20 ⟨by rw [pu_q_f (fun ⟨i, hi, e⟩ => by rw [e] at c1; exact nI_pos (by omega) c1)], rfl⟩
  · refine wp_iload_n (q := 5) d_X_isPlace_4 rfl rfl rfl ?_
    refine wp_aload_n (q := 6) d_X_isPlace_5 rfl rfl rfl ?_
    refine wp_get (q := 9) (k := 0) d_X_isPlace_6 rfl ok_X (Nat.le_of_ble_eq_true rfl) fk_X_12 hX.1 rfl ?_
    refine wp_getN (q := 12) (k := 0) d_X_isPlace_9 rfl ok_G (Nat.le_of_ble_eq_true rfl) fk_X_60 hX.2.1.1 rfl ?_
    refine wp_icmp_ge (q := 15) (tgt := 19) d_X_isPlace_12 (by decide) rfl (fun c12 => ?_) (fun c12 => ?_)
    · refine wp_iconst (q := 20) (v := 0) d_X_isPlace_19 rfl (by decide) ?_
      exact wp_zreturn rfl rfl d_X_isPlace_20 ⟨by rw [pu_q_f (fun ⟨i, hi, e⟩ => by rw [e] at c12; exact nI_ge hi (by omega) c12)], rfl⟩
    · refine wp_iconst (q := 16) (v := 1) d_X_isPlace_15 rfl (by decide) ?_
      refine wp_goto (tgt := 20) d_X_isPlace_16 (by decide) ?_
      exact wp_zreturn rfl rfl d_X_isPlace_20 ⟨by rw [pu_q_t (by rcases pk_ix x (n := n) (by omega) with h | h | h; exact absurd h c1; exact absurd h c12; exact h)], rfl⟩
set_option maxHeartbeats 4000000 in
set_option maxRecDepth 100000 in
theorem c_isPair {n k : Nat} {P C : Nat → Nat} {kn kk : Nat} {KP KC : Nat → Nat} {ak : Bool} {E : Nat → Nat → Nat} {hd hv : Nat} {w : am_W} (hX : XI n k P C kn kk KP KC ak E hd hv w) (hn : n ≤ 8) {x y : Int32} : am_Wp none m_X_isPair 1 0 0 0 [(0, .ref 0), (1, .int x), (2, .int y)] [] w (am_R (some (.int (pu_q (PR n x y)))) w) := by
  refine wp_aload_n (q := 1) d_X_isPair_0 rfl rfl rfl ?_
  refine wp_iload_n (q := 2) d_X_isPair_1 rfl rfl rfl ?_
  refine wp_cV1r (q := 5) d_X_isPair_2 rfl bd_X_isPlace lk_X_113 im_X_isPlace se_X_isPlace rfl (Nat.le_of_ble_eq_true rfl) (Nat.le_of_ble_eq_true rfl) hX.1 (Nat.le_of_ble_eq_true rfl) (c_isPlace hX hn) ?_
  refine wp_if_eq (q := 8) (tgt := 25) d_X_isPair_5 (by decide) rfl (fun c5 => ?_) (fun c5 => ?_)
  · refine wp_iconst (q := 26) (v := 0) d_X_isPair_25 rfl (by decide) ?_
    exact wp_zreturn rfl rfl d_X_isPair_26 ⟨by rw [pu_q_f (fun ⟨i, j, hi, hj, hij, e1, e2⟩ => pu_q0 c5 ⟨i, hi, e1⟩)], rfl⟩
  · refine wp_aload_n (q := 9) d_X_isPair_8 rfl rfl rfl ?_
    refine wp_iload_n (q := 10) d_X_isPair_9 rfl rfl rfl ?_
    refine wp_cV1r (q := 13) d_X_isPair_10 rfl bd_X_isPlace lk_X_113 im_X_isPlace se_X_isPlace rfl (Nat.le_of_ble_eq_true rfl) (Nat.le_of_ble_eq_true rfl) hX.1 (Nat.le_of_ble_eq_true rfl) (c_isPlace hX hn) ?_
    refine wp_if_eq (q := 16) (tgt := 25) d_X_isPair_13 (by decide) rfl (fun c13 => ?_) (fun c13 => ?_)
    · refine wp_iconst (q := 26) (v := 0) d_X_isPair_25 rfl (by decide) ?_
      exact wp_zreturn rfl rfl d_X_isPair_26 ⟨by rw [pu_q_f (fun ⟨i, j, hi, hj, hij, e1, e2⟩ => pu_q0 c13 ⟨j, hj, e2⟩)], rfl⟩
    · refine wp_iload_n (q := 17) d_X_isPair_16 rfl rfl rfl ?_
      refine wp_iload_n (q := 18) d_X_isPair_17 rfl rfl rfl ?_
      refine wp_icmp_eq (q := 21) (tgt := 25) d_X_isPair_18 (by decide) rfl (fun c18 => ?_) (fun c18 => ?_)
      · refine wp_iconst (q := 26) (v := 0) d_X_isPair_25 rfl (by decide) ?_
        exact wp_zreturn rfl rfl d_X_isPair_26 ⟨by rw [pu_q_f (fun ⟨i, j, hi, hj, hij, e1, e2⟩ => hij (pu_nI_inj (by omega) (by omega) (e1.symm.trans (c18.trans e2))))], rfl⟩
      · refine wp_iconst (q := 22) (v := 1) d_X_isPair_21 rfl (by decide) ?_
        refine wp_goto (tgt := 26) d_X_isPair_22 (by decide) ?_
        exact wp_zreturn rfl rfl d_X_isPair_26 ⟨by rw [pu_q_t (by obtain ⟨i, hi, e1⟩ := pu_q1 c5; obtain ⟨j, hj, e2⟩ := pu_q1 c13; exact ⟨i, j, hi, hj, fun e => c18 (by rw [e1, e2, e]), e1, e2⟩)], rfl⟩
set_option maxHeartbeats 4000000 in
set_option maxRecDepth 100000 in
theorem c_isSet {n k : Nat} {P C : Nat → Nat} {kn kk : Nat} {KP KC : Nat → Nat} {ak : Bool} {E : Nat → Nat → Nat} {hd hv : Nat} {w : am_W} (hX : XI n k P C kn kk KP KC ak E hd hv w) (hn : n ≤ 8) {x : Int32} : am_Wp none m_X_isSet 2 0 0 0 [(0, .ref 0), (1, .int x)] [] w (am_R (some (.int (pu_q (SE n x)))) w) := by
  have hp := pu_p2e hn
  have hp1 := pu_p1 n
  refine wp_iload_n (q := 1) d_X_isSet_0 rfl rfl rfl ?_
  refine wp_if_lt (q := 4) (tgt := 19) d_X_isSet_1 (by decide) rfl (fun c1 => ?_) (fun c1 => ?_)
  · refine wp_iconst (q := 20) (v := 0) d_X_isSet_19 rfl (by decide) ?_
    exact wp_zreturn rfl rfl d_X_isSet_20 ⟨by rw [pu_q_f (fun ⟨i, hi, e⟩ => by rw [e] at c1; exact nI_pos (by omega) c1)], rfl⟩
  · refine wp_iload_n (q := 5) d_X_isSet_4 rfl rfl rfl ?_
    refine wp_aload_n (q := 6) d_X_isSet_5 rfl rfl rfl ?_
    refine wp_get (q := 9) (k := 0) d_X_isSet_6 rfl ok_X (Nat.le_of_ble_eq_true rfl) fk_X_12 hX.1 rfl ?_
    refine wp_cVN0r (q := 12) d_X_isSet_9 rfl bd_G_everyPlace lk_X_156 im_G_everyPlace se_G_everyPlace rfl (Nat.le_of_ble_eq_true rfl) (Nat.le_of_ble_eq_true rfl) hX.2.1.1 (Nat.le_of_ble_eq_true rfl) (c_G_everyPlace hX.2.1 hn) ?_
    refine wp_icmp_gt (q := 15) (tgt := 19) d_X_isSet_12 (by decide) rfl (fun c12 => ?_) (fun c12 => ?_)
    · refine wp_iconst (q := 20) (v := 0) d_X_isSet_19 rfl (by decide) ?_
      exact wp_zreturn rfl rfl d_X_isSet_20 ⟨by rw [pu_q_f (fun ⟨i, hi, e⟩ => by rw [e] at c12; exact nI_nlt (by omega) (by omega) c12)], rfl⟩
    · refine wp_iconst (q := 16) (v := 1) d_X_isSet_15 rfl (by decide) ?_
      refine wp_goto (tgt := 20) d_X_isSet_16 (by decide) ?_
      exact wp_zreturn rfl rfl d_X_isSet_20 ⟨by rw [pu_q_t (by rcases pk_ix x (n := 2 ^ n) (by omega) with h | h | h; exact absurd h c1; exact absurd (by have h2 : nI (2 ^ n - 1) < nI (2 ^ n) := nI_lt (by omega) (by omega); exact Int32.lt_of_lt_of_le h2 h) c12; exact h)], rfl⟩
set_option maxHeartbeats 4000000 in
set_option maxRecDepth 100000 in
theorem c_isQuestion {n k : Nat} {P C : Nat → Nat} {kn kk : Nat} {KP KC : Nat → Nat} {ak : Bool} {E : Nat → Nat → Nat} {hd hv : Nat} {w : am_W} (hX : XI n k P C kn kk KP KC ak E hd hv w) (hn : n ≤ 8) {x y s : Int32} : am_Wp none m_X_isQuestion 3 0 0 0 [(0, .ref 0), (1, .int x), (2, .int y), (3, .int s)] [] w (am_R (some (.int (pu_q (QU n x y s)))) w) := by
  refine wp_aload_n (q := 1) d_X_isQuestion_0 rfl rfl rfl ?_
  refine wp_iload_n (q := 2) d_X_isQuestion_1 rfl rfl rfl ?_
  refine wp_iload_n (q := 3) d_X_isQuestion_2 rfl rfl rfl ?_
  refine wp_cV2r (q := 6) d_X_isQuestion_3 rfl bd_X_isPair lk_X_74 im_X_isPair se_X_isPair rfl (Nat.le_of_ble_eq_true rfl) (Nat.le_of_ble_eq_true rfl) hX.1 (Nat.le_of_ble_eq_true rfl) (c_isPair hX hn) ?_
  refine wp_if_eq (q := 9) (tgt := 37) d_X_isQuestion_6 (by decide) rfl (fun c6 => ?_) (fun c6 => ?_)
  · refine wp_iconst (q := 38) (v := 0) d_X_isQuestion_37 rfl (by decide) ?_
    exact wp_zreturn rfl rfl d_X_isQuestion_38 ⟨by rw [pu_q_f (fun ⟨i, j, t, hi, hj, hij, ht, e1, e2, e3, e4, e5⟩ => pu_q0 c6 ⟨i, j, hi, hj, hij, e1, e2⟩)], rfl⟩
  · refine wp_aload_n (q := 10) d_X_isQuestion_9 rfl rfl rfl ?_
    refine wp_iload_n (q := 11) d_X_isQuestion_10 rfl rfl rfl ?_
    refine wp_cV1r (q := 14) d_X_isQuestion_11 rfl bd_X_isSet lk_X_151 im_X_isSet se_X_isSet rfl (Nat.le_of_ble_eq_true rfl) (Nat.le_of_ble_eq_true rfl) hX.1 (Nat.le_of_ble_eq_true rfl) (c_isSet hX hn) ?_
    refine wp_if_eq (q := 17) (tgt := 37) d_X_isQuestion_14 (by decide) rfl (fun c14 => ?_) (fun c14 => ?_)
    · refine wp_iconst (q := 38) (v := 0) d_X_isQuestion_37 rfl (by decide) ?_
      exact wp_zreturn rfl rfl d_X_isQuestion_38 ⟨by rw [pu_q_f (fun ⟨i, j, t, hi, hj, hij, ht, e1, e2, e3, e4, e5⟩ => pu_q0 c14 ⟨t, ht, e3⟩)], rfl⟩
    · obtain ⟨i, j, hi, hj, hij, rfl, rfl⟩ := pu_q1 c6
      obtain ⟨t, ht, rfl⟩ := pu_q1 c14
      have hp := pu_p2e hn
      refine wp_iload_n (q := 18) d_X_isQuestion_17 rfl rfl rfl ?_
      refine wp_iload_n (q := 19) d_X_isQuestion_18 rfl rfl rfl ?_
      refine wp_cS2r (q := 22) d_X_isQuestion_19 rfl bd_X_has lk_X_82 sm_X_has (Nat.le_of_ble_eq_true rfl) (Nat.le_of_ble_eq_true rfl) (Nat.le_of_ble_eq_true rfl) (c_has (by omega) (by omega)) ?_
      refine wp_if_ne (q := 25) (tgt := 37) d_X_isQuestion_22 (by decide) rfl (fun c22 => ?_) (fun c22 => ?_)
      · refine wp_iconst (q := 38) (v := 0) d_X_isQuestion_37 rfl (by decide) ?_
        exact wp_zreturn rfl rfl d_X_isQuestion_38 ⟨by rw [pu_q_f (fun ⟨i', j', t', hi', hj', hij', ht', e1, e2, e3, e4, e5⟩ => by rw [pu_nI_inj (by omega) (by omega) e1, pu_nI_inj (by omega) (by omega) e3, e4] at c22; exact c22 rfl)], rfl⟩
      · refine wp_iload_n (q := 26) d_X_isQuestion_25 rfl rfl rfl ?_
        refine wp_iload_n (q := 27) d_X_isQuestion_26 rfl rfl rfl ?_
        refine wp_cS2r (q := 30) d_X_isQuestion_27 rfl bd_X_has lk_X_82 sm_X_has (Nat.le_of_ble_eq_true rfl) (Nat.le_of_ble_eq_true rfl) (Nat.le_of_ble_eq_true rfl) (c_has (by omega) (by omega)) ?_
        refine wp_if_ne (q := 33) (tgt := 37) d_X_isQuestion_30 (by decide) rfl (fun c30 => ?_) (fun c30 => ?_)
        · refine wp_iconst (q := 38) (v := 0) d_X_isQuestion_37 rfl (by decide) ?_
          exact wp_zreturn rfl rfl d_X_isQuestion_38 ⟨by rw [pu_q_f (fun ⟨i', j', t', hi', hj', hij', ht', e1, e2, e3, e4, e5⟩ => by rw [pu_nI_inj (by omega) (by omega) e2, pu_nI_inj (by omega) (by omega) e3, e5] at c30; exact c30 rfl)], rfl⟩
        · refine wp_iconst (q := 34) (v := 1) d_X_isQuestion_33 rfl (by decide) ?_
          refine wp_goto (tgt := 38) d_X_isQuestion_34 (by decide) ?_
          exact wp_zreturn rfl rfl d_X_isQuestion_38 ⟨by rw [pu_q_t (⟨i, j, t, hi, hj, hij, ht, rfl, rfl, rfl, pu_b0.mp c22, pu_b0.mp c30⟩)], rfl⟩
set_option maxHeartbeats 4000000 in
set_option maxRecDepth 100000 in
theorem c_isRow {n k : Nat} {P C : Nat → Nat} {kn kk : Nat} {KP KC : Nat → Nat} {ak : Bool} {E : Nat → Nat → Nat} {hd hv : Nat} {w : am_W} (hX : XI n k P C kn kk KP KC ak E hd hv w) (hn : n ≤ 8) (hP : ∀ i, P i < 256) {x r : Int32} : am_Wp none m_X_isRow 2 0 0 0 [(0, .ref 0), (1, .int x), (2, .int r)] [] w (am_R (some (.int (pu_q (RO n P x r)))) w) := by
  refine wp_aload_n (q := 1) d_X_isRow_0 rfl rfl rfl ?_
  refine wp_iload_n (q := 2) d_X_isRow_1 rfl rfl rfl ?_
  refine wp_cV1r (q := 5) d_X_isRow_2 rfl bd_X_isPlace lk_X_113 im_X_isPlace se_X_isPlace rfl (Nat.le_of_ble_eq_true rfl) (Nat.le_of_ble_eq_true rfl) hX.1 (Nat.le_of_ble_eq_true rfl) (c_isPlace hX hn) ?_
  refine wp_if_eq (q := 8) (tgt := 28) d_X_isRow_5 (by decide) rfl (fun c5 => ?_) (fun c5 => ?_)
  · refine wp_iconst (q := 29) (v := 0) d_X_isRow_28 rfl (by decide) ?_
    exact wp_zreturn rfl rfl d_X_isRow_29 ⟨by rw [pu_q_f (fun ⟨i, j, hi, hj, e1, e2⟩ => pu_q0 c5 ⟨i, hi, e1⟩)], rfl⟩
  · obtain ⟨i, hi, rfl⟩ := pu_q1 c5
    have hp := pu_p2e (Nat.le_trans (pu_pop_le 8 (P i)) (Nat.le_refl 8))
    refine wp_iload_n (q := 9) d_X_isRow_8 rfl rfl rfl ?_
    refine wp_if_lt (q := 12) (tgt := 28) d_X_isRow_9 (by decide) rfl (fun c9 => ?_) (fun c9 => ?_)
    · refine wp_iconst (q := 29) (v := 0) d_X_isRow_28 rfl (by decide) ?_
      exact wp_zreturn rfl rfl d_X_isRow_29 ⟨by rw [pu_q_f (fun ⟨i, j, hi, hj, e1, e2⟩ => by have hp := pu_p2e (Nat.le_trans (pu_pop_le 8 (P i)) (Nat.le_refl 8)); rw [e2] at c9; exact nI_pos (by omega) c9)], rfl⟩
    · refine wp_iload_n (q := 13) d_X_isRow_12 rfl rfl rfl ?_
      refine wp_aload_n (q := 14) d_X_isRow_13 rfl rfl rfl ?_
      refine wp_get (q := 17) (k := 0) d_X_isRow_14 rfl ok_X (Nat.le_of_ble_eq_true rfl) fk_X_12 hX.1 rfl ?_
      refine wp_iload_n (q := 18) d_X_isRow_17 rfl rfl rfl ?_
      refine wp_cVN1r (q := 21) d_X_isRow_18 rfl bd_G_rows lk_X_136 im_G_rows se_G_rows rfl (Nat.le_of_ble_eq_true rfl) (Nat.le_of_ble_eq_true rfl) hX.2.1.1 (Nat.le_of_ble_eq_true rfl) (c_G_rows hX.2.1 hP (by omega)) ?_
      refine wp_icmp_ge (q := 24) (tgt := 28) d_X_isRow_21 (by decide) rfl (fun c21 => ?_) (fun c21 => ?_)
      · refine wp_iconst (q := 29) (v := 0) d_X_isRow_28 rfl (by decide) ?_
        exact wp_zreturn rfl rfl d_X_isRow_29 ⟨by rw [pu_q_f (fun ⟨i', j, hi', hj, e1, e2⟩ => by rw [← pu_nI_inj (by omega) (by omega) e1] at hj; rw [e2] at c21; exact nI_ge hj (by omega) c21)], rfl⟩
      · refine wp_iconst (q := 25) (v := 1) d_X_isRow_24 rfl (by decide) ?_
        refine wp_goto (tgt := 29) d_X_isRow_25 (by decide) ?_
        exact wp_zreturn rfl rfl d_X_isRow_29 ⟨by rw [pu_q_t (by rcases pk_ix r (n := 2 ^ pu_pop 8 (P i)) (by omega) with h | h | ⟨j, hj, e⟩; exact absurd h c9; exact absurd h c21; exact ⟨i, j, hi, hj, rfl, e⟩)], rfl⟩
end
