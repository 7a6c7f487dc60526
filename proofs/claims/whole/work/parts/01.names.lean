-- ===== PART A: goes FIRST, ahead of the names: the tables' words, and 'selects' of the private methods out of them =====
/-- a private method of a class that the tables say can be made, by its rows of tables_1 -/
def lw_okq (q : MethodName × Nat) : Prop := (q.1.cls ≠ "java/lang/invoke/MethodHandle" ∧ q.1.cls ≠ "java/lang/invoke/VarHandle") ∧ Cond.instantiable q.1.cls q.2 ∈ tables_1 ∧ Cond.privateMethod q.1 ∈ tables_1 ∧ Cond.instanceMethod q.1 ∈ tables_1
theorem lw_p0 : lw_okq (⟨"PrickedPages", "textAt", "(I)LPrickedPages$Text;"⟩, 14) := ⟨⟨by decide +kernel, by decide +kernel⟩, List.mem_of_getElem? (i := 12) (by decide +kernel), List.mem_of_getElem? (i := 167) (by decide +kernel), List.mem_of_getElem? (i := 168) (by decide +kernel)⟩
theorem lw_p1 : lw_okq (⟨"PrickedPages$Text", "hasRoom", "()Z"⟩, 2) := ⟨⟨by decide +kernel, by decide +kernel⟩, List.mem_of_getElem? (i := 20) (by decide +kernel), List.mem_of_getElem? (i := 174) (by decide +kernel), List.mem_of_getElem? (i := 175) (by decide +kernel)⟩
theorem lw_p2 : lw_okq (⟨"PrickedPages$Text", "append", "(I)V"⟩, 2) := ⟨⟨by decide +kernel, by decide +kernel⟩, List.mem_of_getElem? (i := 20) (by decide +kernel), List.mem_of_getElem? (i := 178) (by decide +kernel), List.mem_of_getElem? (i := 179) (by decide +kernel)⟩
theorem lw_p3 : lw_okq (⟨"PrickedPages", "layTexts", "()V"⟩, 14) := ⟨⟨by decide +kernel, by decide +kernel⟩, List.mem_of_getElem? (i := 12) (by decide +kernel), List.mem_of_getElem? (i := 186) (by decide +kernel), List.mem_of_getElem? (i := 187) (by decide +kernel)⟩
theorem lw_p4 : lw_okq (⟨"PrickedPages$WordList", "split", "()V"⟩, 5) := ⟨⟨by decide +kernel, by decide +kernel⟩, List.mem_of_getElem? (i := 41) (by decide +kernel), List.mem_of_getElem? (i := 190) (by decide +kernel), List.mem_of_getElem? (i := 191) (by decide +kernel)⟩
theorem lw_p5 : lw_okq (⟨"PrickedPages$WordList", "firstFault", "()I"⟩, 5) := ⟨⟨by decide +kernel, by decide +kernel⟩, List.mem_of_getElem? (i := 41) (by decide +kernel), List.mem_of_getElem? (i := 194) (by decide +kernel), List.mem_of_getElem? (i := 195) (by decide +kernel)⟩
theorem lw_p6 : lw_okq (⟨"PrickedPages", "layCells", "()V"⟩, 14) := ⟨⟨by decide +kernel, by decide +kernel⟩, List.mem_of_getElem? (i := 12) (by decide +kernel), List.mem_of_getElem? (i := 206) (by decide +kernel), List.mem_of_getElem? (i := 207) (by decide +kernel)⟩
theorem lw_p7 : lw_okq (⟨"PrickedPages", "pageFault", "()I"⟩, 14) := ⟨⟨by decide +kernel, by decide +kernel⟩, List.mem_of_getElem? (i := 12) (by decide +kernel), List.mem_of_getElem? (i := 210) (by decide +kernel), List.mem_of_getElem? (i := 211) (by decide +kernel)⟩
theorem lw_p8 : lw_okq (⟨"PrickedPages", "printedAt", "(I)I"⟩, 14) := ⟨⟨by decide +kernel, by decide +kernel⟩, List.mem_of_getElem? (i := 12) (by decide +kernel), List.mem_of_getElem? (i := 216) (by decide +kernel), List.mem_of_getElem? (i := 217) (by decide +kernel)⟩
theorem lw_p9 : lw_okq (⟨"PrickedPages$Slips", "pointsAt", "(II)I"⟩, 4) := ⟨⟨by decide +kernel, by decide +kernel⟩, List.mem_of_getElem? (i := 68) (by decide +kernel), List.mem_of_getElem? (i := 220) (by decide +kernel), List.mem_of_getElem? (i := 221) (by decide +kernel)⟩
theorem lw_p10 : lw_okq (⟨"PrickedPages", "sheetAt", "(I)LPrickedPages$Sheet;"⟩, 14) := ⟨⟨by decide +kernel, by decide +kernel⟩, List.mem_of_getElem? (i := 12) (by decide +kernel), List.mem_of_getElem? (i := 245) (by decide +kernel), List.mem_of_getElem? (i := 246) (by decide +kernel)⟩
theorem lw_p11 : lw_okq (⟨"PrickedPages$Sheet", "isLost", "()Z"⟩, 3) := ⟨⟨by decide +kernel, by decide +kernel⟩, List.mem_of_getElem? (i := 101) (by decide +kernel), List.mem_of_getElem? (i := 249) (by decide +kernel), List.mem_of_getElem? (i := 250) (by decide +kernel)⟩
theorem lw_p12 : lw_okq (⟨"PrickedPages", "find", "(I)I"⟩, 14) := ⟨⟨by decide +kernel, by decide +kernel⟩, List.mem_of_getElem? (i := 12) (by decide +kernel), List.mem_of_getElem? (i := 253) (by decide +kernel), List.mem_of_getElem? (i := 254) (by decide +kernel)⟩
theorem lw_p13 : lw_okq (⟨"PrickedPages$Slips", "add", "(III)V"⟩, 4) := ⟨⟨by decide +kernel, by decide +kernel⟩, List.mem_of_getElem? (i := 68) (by decide +kernel), List.mem_of_getElem? (i := 261) (by decide +kernel), List.mem_of_getElem? (i := 262) (by decide +kernel)⟩
theorem lw_p14 : lw_okq (⟨"PrickedPages", "isCell", "(I)Z"⟩, 14) := ⟨⟨by decide +kernel, by decide +kernel⟩, List.mem_of_getElem? (i := 12) (by decide +kernel), List.mem_of_getElem? (i := 282) (by decide +kernel), List.mem_of_getElem? (i := 283) (by decide +kernel)⟩
theorem lw_p15 : lw_okq (⟨"PrickedPages", "readingOf", "(I)I"⟩, 14) := ⟨⟨by decide +kernel, by decide +kernel⟩, List.mem_of_getElem? (i := 12) (by decide +kernel), List.mem_of_getElem? (i := 290) (by decide +kernel), List.mem_of_getElem? (i := 291) (by decide +kernel)⟩
def lw_privs_1 : List (MethodName × Nat) := [(⟨"PrickedPages", "textAt", "(I)LPrickedPages$Text;"⟩, 14), (⟨"PrickedPages$Text", "hasRoom", "()Z"⟩, 2), (⟨"PrickedPages$Text", "append", "(I)V"⟩, 2), (⟨"PrickedPages", "layTexts", "()V"⟩, 14), (⟨"PrickedPages$WordList", "split", "()V"⟩, 5), (⟨"PrickedPages$WordList", "firstFault", "()I"⟩, 5), (⟨"PrickedPages", "layCells", "()V"⟩, 14), (⟨"PrickedPages", "pageFault", "()I"⟩, 14), (⟨"PrickedPages", "printedAt", "(I)I"⟩, 14), (⟨"PrickedPages$Slips", "pointsAt", "(II)I"⟩, 4), (⟨"PrickedPages", "sheetAt", "(I)LPrickedPages$Sheet;"⟩, 14), (⟨"PrickedPages$Sheet", "isLost", "()Z"⟩, 3), (⟨"PrickedPages", "find", "(I)I"⟩, 14), (⟨"PrickedPages$Slips", "add", "(III)V"⟩, 4), (⟨"PrickedPages", "isCell", "(I)Z"⟩, 14), (⟨"PrickedPages", "readingOf", "(I)I"⟩, 14)]
theorem lw_r1 : ∀ q ∈ lw_privs_1, lw_okq q := List.forall_mem_cons.mpr ⟨lw_p0, List.forall_mem_cons.mpr ⟨lw_p1, List.forall_mem_cons.mpr ⟨lw_p2, List.forall_mem_cons.mpr ⟨lw_p3, List.forall_mem_cons.mpr ⟨lw_p4, List.forall_mem_cons.mpr ⟨lw_p5, List.forall_mem_cons.mpr ⟨lw_p6, List.forall_mem_cons.mpr ⟨lw_p7, List.forall_mem_cons.mpr ⟨lw_p8, List.forall_mem_cons.mpr ⟨lw_p9, List.forall_mem_cons.mpr ⟨lw_p10, List.forall_mem_cons.mpr ⟨lw_p11, List.forall_mem_cons.mpr ⟨lw_p12, List.forall_mem_cons.mpr ⟨lw_p13, List.forall_mem_cons.mpr ⟨lw_p14, List.forall_mem_cons.mpr ⟨lw_p15, fun _ h => absurd h List.not_mem_nil⟩⟩⟩⟩⟩⟩⟩⟩⟩⟩⟩⟩⟩⟩⟩⟩
theorem lw_p16 : lw_okq (⟨"PrickedPages$WordList", "has", "(I)Z"⟩, 5) := ⟨⟨by decide +kernel, by decide +kernel⟩, List.mem_of_getElem? (i := 41) (by decide +kernel), List.mem_of_getElem? (i := 313) (by decide +kernel), List.mem_of_getElem? (i := 314) (by decide +kernel)⟩
theorem lw_p17 : lw_okq (⟨"PrickedPages", "wordsBothWays", "()I"⟩, 14) := ⟨⟨by decide +kernel, by decide +kernel⟩, List.mem_of_getElem? (i := 12) (by decide +kernel), List.mem_of_getElem? (i := 318) (by decide +kernel), List.mem_of_getElem? (i := 319) (by decide +kernel)⟩
theorem lw_p18 : lw_okq (⟨"PrickedPages", "wordFromBehind", "(I)I"⟩, 14) := ⟨⟨by decide +kernel, by decide +kernel⟩, List.mem_of_getElem? (i := 12) (by decide +kernel), List.mem_of_getElem? (i := 322) (by decide +kernel), List.mem_of_getElem? (i := 323) (by decide +kernel)⟩
theorem lw_p19 : lw_okq (⟨"PrickedPages", "isReadFromBehindAs", "(II)Z"⟩, 14) := ⟨⟨by decide +kernel, by decide +kernel⟩, List.mem_of_getElem? (i := 12) (by decide +kernel), List.mem_of_getElem? (i := 326) (by decide +kernel), List.mem_of_getElem? (i := 327) (by decide +kernel)⟩
theorem lw_p20 : lw_okq (⟨"PrickedPages$WordList", "lettersOf", "(I)I"⟩, 5) := ⟨⟨by decide +kernel, by decide +kernel⟩, List.mem_of_getElem? (i := 41) (by decide +kernel), List.mem_of_getElem? (i := 330) (by decide +kernel), List.mem_of_getElem? (i := 331) (by decide +kernel)⟩
theorem lw_p21 : lw_okq (⟨"PrickedPages", "signOf", "(II)I"⟩, 14) := ⟨⟨by decide +kernel, by decide +kernel⟩, List.mem_of_getElem? (i := 12) (by decide +kernel), List.mem_of_getElem? (i := 334) (by decide +kernel), List.mem_of_getElem? (i := 335) (by decide +kernel)⟩
theorem lw_p22 : lw_okq (⟨"PrickedPages$WordList", "letterOf", "(II)I"⟩, 5) := ⟨⟨by decide +kernel, by decide +kernel⟩, List.mem_of_getElem? (i := 41) (by decide +kernel), List.mem_of_getElem? (i := 338) (by decide +kernel), List.mem_of_getElem? (i := 339) (by decide +kernel)⟩
theorem lw_p23 : lw_okq (⟨"PrickedPages", "costAt", "(II)I"⟩, 14) := ⟨⟨by decide +kernel, by decide +kernel⟩, List.mem_of_getElem? (i := 12) (by decide +kernel), List.mem_of_getElem? (i := 346) (by decide +kernel), List.mem_of_getElem? (i := 347) (by decide +kernel)⟩
theorem lw_p24 : lw_okq (⟨"PrickedPages", "hasCellsFor", "(II)Z"⟩, 14) := ⟨⟨by decide +kernel, by decide +kernel⟩, List.mem_of_getElem? (i := 12) (by decide +kernel), List.mem_of_getElem? (i := 350) (by decide +kernel), List.mem_of_getElem? (i := 351) (by decide +kernel)⟩
theorem lw_p25 : lw_okq (⟨"PrickedPages", "cheapestAt", "(I)I"⟩, 14) := ⟨⟨by decide +kernel, by decide +kernel⟩, List.mem_of_getElem? (i := 12) (by decide +kernel), List.mem_of_getElem? (i := 364) (by decide +kernel), List.mem_of_getElem? (i := 365) (by decide +kernel)⟩
theorem lw_p26 : lw_okq (⟨"PrickedPages", "bestLine", "()I"⟩, 14) := ⟨⟨by decide +kernel, by decide +kernel⟩, List.mem_of_getElem? (i := 12) (by decide +kernel), List.mem_of_getElem? (i := 376) (by decide +kernel), List.mem_of_getElem? (i := 377) (by decide +kernel)⟩
theorem lw_p27 : lw_okq (⟨"PrickedPages", "bestBehindWord", "(I)I"⟩, 14) := ⟨⟨by decide +kernel, by decide +kernel⟩, List.mem_of_getElem? (i := 12) (by decide +kernel), List.mem_of_getElem? (i := 380) (by decide +kernel), List.mem_of_getElem? (i := 381) (by decide +kernel)⟩
theorem lw_p28 : lw_okq (⟨"PrickedPages", "isApartFromOthers", "(II)Z"⟩, 14) := ⟨⟨by decide +kernel, by decide +kernel⟩, List.mem_of_getElem? (i := 12) (by decide +kernel), List.mem_of_getElem? (i := 398) (by decide +kernel), List.mem_of_getElem? (i := 399) (by decide +kernel)⟩
theorem lw_p29 : lw_okq (⟨"PrickedPages", "freeSigns", "()I"⟩, 14) := ⟨⟨by decide +kernel, by decide +kernel⟩, List.mem_of_getElem? (i := 12) (by decide +kernel), List.mem_of_getElem? (i := 406) (by decide +kernel), List.mem_of_getElem? (i := 407) (by decide +kernel)⟩
theorem lw_p30 : lw_okq (⟨"PrickedPages", "shortened", "(I)I"⟩, 14) := ⟨⟨by decide +kernel, by decide +kernel⟩, List.mem_of_getElem? (i := 12) (by decide +kernel), List.mem_of_getElem? (i := 410) (by decide +kernel), List.mem_of_getElem? (i := 411) (by decide +kernel)⟩
theorem lw_p31 : lw_okq (⟨"PrickedPages", "mostSavingBut", "(I)I"⟩, 14) := ⟨⟨by decide +kernel, by decide +kernel⟩, List.mem_of_getElem? (i := 12) (by decide +kernel), List.mem_of_getElem? (i := 414) (by decide +kernel), List.mem_of_getElem? (i := 415) (by decide +kernel)⟩
def lw_privs_2 : List (MethodName × Nat) := [(⟨"PrickedPages$WordList", "has", "(I)Z"⟩, 5), (⟨"PrickedPages", "wordsBothWays", "()I"⟩, 14), (⟨"PrickedPages", "wordFromBehind", "(I)I"⟩, 14), (⟨"PrickedPages", "isReadFromBehindAs", "(II)Z"⟩, 14), (⟨"PrickedPages$WordList", "lettersOf", "(I)I"⟩, 5), (⟨"PrickedPages", "signOf", "(II)I"⟩, 14), (⟨"PrickedPages$WordList", "letterOf", "(II)I"⟩, 5), (⟨"PrickedPages", "costAt", "(II)I"⟩, 14), (⟨"PrickedPages", "hasCellsFor", "(II)Z"⟩, 14), (⟨"PrickedPages", "cheapestAt", "(I)I"⟩, 14), (⟨"PrickedPages", "bestLine", "()I"⟩, 14), (⟨"PrickedPages", "bestBehindWord", "(I)I"⟩, 14), (⟨"PrickedPages", "isApartFromOthers", "(II)Z"⟩, 14), (⟨"PrickedPages", "freeSigns", "()I"⟩, 14), (⟨"PrickedPages", "shortened", "(I)I"⟩, 14), (⟨"PrickedPages", "mostSavingBut", "(I)I"⟩, 14)]
theorem lw_r2 : ∀ q ∈ lw_privs_2, lw_okq q := List.forall_mem_cons.mpr ⟨lw_p16, List.forall_mem_cons.mpr ⟨lw_p17, List.forall_mem_cons.mpr ⟨lw_p18, List.forall_mem_cons.mpr ⟨lw_p19, List.forall_mem_cons.mpr ⟨lw_p20, List.forall_mem_cons.mpr ⟨lw_p21, List.forall_mem_cons.mpr ⟨lw_p22, List.forall_mem_cons.mpr ⟨lw_p23, List.forall_mem_cons.mpr ⟨lw_p24, List.forall_mem_cons.mpr ⟨lw_p25, List.forall_mem_cons.mpr ⟨lw_p26, List.forall_mem_cons.mpr ⟨lw_p27, List.forall_mem_cons.mpr ⟨lw_p28, List.forall_mem_cons.mpr ⟨lw_p29, List.forall_mem_cons.mpr ⟨lw_p30, List.forall_mem_cons.mpr ⟨lw_p31, fun _ h => absurd h List.not_mem_nil⟩⟩⟩⟩⟩⟩⟩⟩⟩⟩⟩⟩⟩⟩⟩⟩
theorem lw_p32 : lw_okq (⟨"PrickedPages", "savedBy", "(I)I"⟩, 14) := ⟨⟨by decide +kernel, by decide +kernel⟩, List.mem_of_getElem? (i := 12) (by decide +kernel), List.mem_of_getElem? (i := 418) (by decide +kernel), List.mem_of_getElem? (i := 419) (by decide +kernel)⟩
theorem lw_p33 : lw_okq (⟨"PrickedPages", "lieTogether", "(III)Z"⟩, 14) := ⟨⟨by decide +kernel, by decide +kernel⟩, List.mem_of_getElem? (i := 12) (by decide +kernel), List.mem_of_getElem? (i := 426) (by decide +kernel), List.mem_of_getElem? (i := 427) (by decide +kernel)⟩
theorem lw_p34 : lw_okq (⟨"PrickedPages", "firstClash", "(LPrickedPages$Sheet;)I"⟩, 14) := ⟨⟨by decide +kernel, by decide +kernel⟩, List.mem_of_getElem? (i := 12) (by decide +kernel), List.mem_of_getElem? (i := 434) (by decide +kernel), List.mem_of_getElem? (i := 435) (by decide +kernel)⟩
theorem lw_p35 : lw_okq (⟨"PrickedPages", "skippedAt", "(I)I"⟩, 14) := ⟨⟨by decide +kernel, by decide +kernel⟩, List.mem_of_getElem? (i := 12) (by decide +kernel), List.mem_of_getElem? (i := 446) (by decide +kernel), List.mem_of_getElem? (i := 447) (by decide +kernel)⟩
theorem lw_p36 : lw_okq (⟨"PrickedPages", "skippedBy", "(I)I"⟩, 14) := ⟨⟨by decide +kernel, by decide +kernel⟩, List.mem_of_getElem? (i := 12) (by decide +kernel), List.mem_of_getElem? (i := 450) (by decide +kernel), List.mem_of_getElem? (i := 451) (by decide +kernel)⟩
theorem lw_p37 : lw_okq (⟨"PrickedPages", "wearDown", "(I)V"⟩, 14) := ⟨⟨by decide +kernel, by decide +kernel⟩, List.mem_of_getElem? (i := 12) (by decide +kernel), List.mem_of_getElem? (i := 458) (by decide +kernel), List.mem_of_getElem? (i := 459) (by decide +kernel)⟩
theorem lw_p38 : lw_okq (⟨"PrickedPages", "nextRaised", "(I)I"⟩, 14) := ⟨⟨by decide +kernel, by decide +kernel⟩, List.mem_of_getElem? (i := 12) (by decide +kernel), List.mem_of_getElem? (i := 462) (by decide +kernel), List.mem_of_getElem? (i := 463) (by decide +kernel)⟩
theorem lw_p39 : lw_okq (⟨"PrickedPages$Sheet", "renew", "(II)V"⟩, 3) := ⟨⟨by decide +kernel, by decide +kernel⟩, List.mem_of_getElem? (i := 101) (by decide +kernel), List.mem_of_getElem? (i := 479) (by decide +kernel), List.mem_of_getElem? (i := 480) (by decide +kernel)⟩
theorem lw_p40 : lw_okq (⟨"PrickedPages$Sheet", "store", "(II)V"⟩, 3) := ⟨⟨by decide +kernel, by decide +kernel⟩, List.mem_of_getElem? (i := 101) (by decide +kernel), List.mem_of_getElem? (i := 495) (by decide +kernel), List.mem_of_getElem? (i := 496) (by decide +kernel)⟩
theorem lw_p41 : lw_okq (⟨"PrickedPages$Sheet", "hasStretch", "(II)Z"⟩, 3) := ⟨⟨by decide +kernel, by decide +kernel⟩, List.mem_of_getElem? (i := 101) (by decide +kernel), List.mem_of_getElem? (i := 509) (by decide +kernel), List.mem_of_getElem? (i := 510) (by decide +kernel)⟩
theorem lw_p42 : lw_okq (⟨"PrickedPages", "cellsOfLetters", "()I"⟩, 14) := ⟨⟨by decide +kernel, by decide +kernel⟩, List.mem_of_getElem? (i := 12) (by decide +kernel), List.mem_of_getElem? (i := 524) (by decide +kernel), List.mem_of_getElem? (i := 525) (by decide +kernel)⟩
theorem lw_p43 : lw_okq (⟨"PrickedPages", "mixCells", "(J)J"⟩, 14) := ⟨⟨by decide +kernel, by decide +kernel⟩, List.mem_of_getElem? (i := 12) (by decide +kernel), List.mem_of_getElem? (i := 540) (by decide +kernel), List.mem_of_getElem? (i := 541) (by decide +kernel)⟩
theorem lw_p44 : lw_okq (⟨"PrickedPages", "mixWords", "(J)J"⟩, 14) := ⟨⟨by decide +kernel, by decide +kernel⟩, List.mem_of_getElem? (i := 12) (by decide +kernel), List.mem_of_getElem? (i := 549) (by decide +kernel), List.mem_of_getElem? (i := 550) (by decide +kernel)⟩
theorem lw_p45 : lw_okq (⟨"PrickedPagesModel", "faultOf", "(I)I"⟩, 25) := ⟨⟨by decide +kernel, by decide +kernel⟩, List.mem_of_getElem? (i := 562) (by decide +kernel), List.mem_of_getElem? (i := 660) (by decide +kernel), List.mem_of_getElem? (i := 661) (by decide +kernel)⟩
theorem lw_p46 : lw_okq (⟨"PrickedPagesModel", "readsPage", "()I"⟩, 25) := ⟨⟨by decide +kernel, by decide +kernel⟩, List.mem_of_getElem? (i := 562) (by decide +kernel), List.mem_of_getElem? (i := 664) (by decide +kernel), List.mem_of_getElem? (i := 665) (by decide +kernel)⟩
theorem lw_p47 : lw_okq (⟨"PrickedPagesModel", "letterAt", "(II)I"⟩, 25) := ⟨⟨by decide +kernel, by decide +kernel⟩, List.mem_of_getElem? (i := 562) (by decide +kernel), List.mem_of_getElem? (i := 668) (by decide +kernel), List.mem_of_getElem? (i := 669) (by decide +kernel)⟩
def lw_privs_3 : List (MethodName × Nat) := [(⟨"PrickedPages", "savedBy", "(I)I"⟩, 14), (⟨"PrickedPages", "lieTogether", "(III)Z"⟩, 14), (⟨"PrickedPages", "firstClash", "(LPrickedPages$Sheet;)I"⟩, 14), (⟨"PrickedPages", "skippedAt", "(I)I"⟩, 14), (⟨"PrickedPages", "skippedBy", "(I)I"⟩, 14), (⟨"PrickedPages", "wearDown", "(I)V"⟩, 14), (⟨"PrickedPages", "nextRaised", "(I)I"⟩, 14), (⟨"PrickedPages$Sheet", "renew", "(II)V"⟩, 3), (⟨"PrickedPages$Sheet", "store", "(II)V"⟩, 3), (⟨"PrickedPages$Sheet", "hasStretch", "(II)Z"⟩, 3), (⟨"PrickedPages", "cellsOfLetters", "()I"⟩, 14), (⟨"PrickedPages", "mixCells", "(J)J"⟩, 14), (⟨"PrickedPages", "mixWords", "(J)J"⟩, 14), (⟨"PrickedPagesModel", "faultOf", "(I)I"⟩, 25), (⟨"PrickedPagesModel", "readsPage", "()I"⟩, 25), (⟨"PrickedPagesModel", "letterAt", "(II)I"⟩, 25)]
theorem lw_r3 : ∀ q ∈ lw_privs_3, lw_okq q := List.forall_mem_cons.mpr ⟨lw_p32, List.forall_mem_cons.mpr ⟨lw_p33, List.forall_mem_cons.mpr ⟨lw_p34, List.forall_mem_cons.mpr ⟨lw_p35, List.forall_mem_cons.mpr ⟨lw_p36, List.forall_mem_cons.mpr ⟨lw_p37, List.forall_mem_cons.mpr ⟨lw_p38, List.forall_mem_cons.mpr ⟨lw_p39, List.forall_mem_cons.mpr ⟨lw_p40, List.forall_mem_cons.mpr ⟨lw_p41, List.forall_mem_cons.mpr ⟨lw_p42, List.forall_mem_cons.mpr ⟨lw_p43, List.forall_mem_cons.mpr ⟨lw_p44, List.forall_mem_cons.mpr ⟨lw_p45, List.forall_mem_cons.mpr ⟨lw_p46, List.forall_mem_cons.mpr ⟨lw_p47, fun _ h => absurd h List.not_mem_nil⟩⟩⟩⟩⟩⟩⟩⟩⟩⟩⟩⟩⟩⟩⟩⟩
theorem lw_p48 : lw_okq (⟨"PrickedPagesModel", "readsWords", "()I"⟩, 25) := ⟨⟨by decide +kernel, by decide +kernel⟩, List.mem_of_getElem? (i := 562) (by decide +kernel), List.mem_of_getElem? (i := 672) (by decide +kernel), List.mem_of_getElem? (i := 673) (by decide +kernel)⟩
theorem lw_p49 : lw_okq (⟨"PrickedPagesModel", "meets", "(I)I"⟩, 25) := ⟨⟨by decide +kernel, by decide +kernel⟩, List.mem_of_getElem? (i := 562) (by decide +kernel), List.mem_of_getElem? (i := 687) (by decide +kernel), List.mem_of_getElem? (i := 688) (by decide +kernel)⟩
theorem lw_p50 : lw_okq (⟨"PrickedPagesModel", "isCell", "(I)Z"⟩, 25) := ⟨⟨by decide +kernel, by decide +kernel⟩, List.mem_of_getElem? (i := 562) (by decide +kernel), List.mem_of_getElem? (i := 711) (by decide +kernel), List.mem_of_getElem? (i := 712) (by decide +kernel)⟩
theorem lw_p51 : lw_okq (⟨"PrickedPagesModel", "reads", "()V"⟩, 25) := ⟨⟨by decide +kernel, by decide +kernel⟩, List.mem_of_getElem? (i := 562) (by decide +kernel), List.mem_of_getElem? (i := 715) (by decide +kernel), List.mem_of_getElem? (i := 716) (by decide +kernel)⟩
theorem lw_p52 : lw_okq (⟨"PrickedPagesModel", "cellOf", "(I)I"⟩, 25) := ⟨⟨by decide +kernel, by decide +kernel⟩, List.mem_of_getElem? (i := 562) (by decide +kernel), List.mem_of_getElem? (i := 719) (by decide +kernel), List.mem_of_getElem? (i := 720) (by decide +kernel)⟩
theorem lw_p53 : lw_okq (⟨"PrickedPagesModel", "signOf", "(I)I"⟩, 25) := ⟨⟨by decide +kernel, by decide +kernel⟩, List.mem_of_getElem? (i := 562) (by decide +kernel), List.mem_of_getElem? (i := 723) (by decide +kernel), List.mem_of_getElem? (i := 724) (by decide +kernel)⟩
theorem lw_p54 : lw_okq (⟨"PrickedPagesModel", "readAs", "(I)I"⟩, 25) := ⟨⟨by decide +kernel, by decide +kernel⟩, List.mem_of_getElem? (i := 562) (by decide +kernel), List.mem_of_getElem? (i := 731) (by decide +kernel), List.mem_of_getElem? (i := 732) (by decide +kernel)⟩
theorem lw_p55 : lw_okq (⟨"PrickedPagesModel", "judgedNow", "()I"⟩, 25) := ⟨⟨by decide +kernel, by decide +kernel⟩, List.mem_of_getElem? (i := 562) (by decide +kernel), List.mem_of_getElem? (i := 739) (by decide +kernel), List.mem_of_getElem? (i := 740) (by decide +kernel)⟩
theorem lw_p56 : lw_okq (⟨"PrickedPagesModel", "wrongOf", "(I)I"⟩, 25) := ⟨⟨by decide +kernel, by decide +kernel⟩, List.mem_of_getElem? (i := 562) (by decide +kernel), List.mem_of_getElem? (i := 747) (by decide +kernel), List.mem_of_getElem? (i := 748) (by decide +kernel)⟩
theorem lw_p57 : lw_okq (⟨"PrickedPagesModel", "bothAll", "()I"⟩, 25) := ⟨⟨by decide +kernel, by decide +kernel⟩, List.mem_of_getElem? (i := 562) (by decide +kernel), List.mem_of_getElem? (i := 762) (by decide +kernel), List.mem_of_getElem? (i := 763) (by decide +kernel)⟩
theorem lw_p58 : lw_okq (⟨"PrickedPagesModel", "bothOf", "(I)I"⟩, 25) := ⟨⟨by decide +kernel, by decide +kernel⟩, List.mem_of_getElem? (i := 562) (by decide +kernel), List.mem_of_getElem? (i := 766) (by decide +kernel), List.mem_of_getElem? (i := 767) (by decide +kernel)⟩
theorem lw_p59 : lw_okq (⟨"PrickedPagesModel", "isWord", "(I)Z"⟩, 25) := ⟨⟨by decide +kernel, by decide +kernel⟩, List.mem_of_getElem? (i := 562) (by decide +kernel), List.mem_of_getElem? (i := 770) (by decide +kernel), List.mem_of_getElem? (i := 771) (by decide +kernel)⟩
theorem lw_p60 : lw_okq (⟨"PrickedPagesModel", "fitsOf", "(II)I"⟩, 25) := ⟨⟨by decide +kernel, by decide +kernel⟩, List.mem_of_getElem? (i := 562) (by decide +kernel), List.mem_of_getElem? (i := 778) (by decide +kernel), List.mem_of_getElem? (i := 779) (by decide +kernel)⟩
theorem lw_p61 : lw_okq (⟨"PrickedPagesModel", "meantOf", "(II)I"⟩, 25) := ⟨⟨by decide +kernel, by decide +kernel⟩, List.mem_of_getElem? (i := 562) (by decide +kernel), List.mem_of_getElem? (i := 789) (by decide +kernel), List.mem_of_getElem? (i := 790) (by decide +kernel)⟩
theorem lw_p62 : lw_okq (⟨"PrickedPagesModel", "withinOf", "(II)I"⟩, 25) := ⟨⟨by decide +kernel, by decide +kernel⟩, List.mem_of_getElem? (i := 562) (by decide +kernel), List.mem_of_getElem? (i := 797) (by decide +kernel), List.mem_of_getElem? (i := 798) (by decide +kernel)⟩
theorem lw_p63 : lw_okq (⟨"PrickedPagesModel", "lineOf", "(I)I"⟩, 25) := ⟨⟨by decide +kernel, by decide +kernel⟩, List.mem_of_getElem? (i := 562) (by decide +kernel), List.mem_of_getElem? (i := 805) (by decide +kernel), List.mem_of_getElem? (i := 806) (by decide +kernel)⟩
def lw_privs_4 : List (MethodName × Nat) := [(⟨"PrickedPagesModel", "readsWords", "()I"⟩, 25), (⟨"PrickedPagesModel", "meets", "(I)I"⟩, 25), (⟨"PrickedPagesModel", "isCell", "(I)Z"⟩, 25), (⟨"PrickedPagesModel", "reads", "()V"⟩, 25), (⟨"PrickedPagesModel", "cellOf", "(I)I"⟩, 25), (⟨"PrickedPagesModel", "signOf", "(I)I"⟩, 25), (⟨"PrickedPagesModel", "readAs", "(I)I"⟩, 25), (⟨"PrickedPagesModel", "judgedNow", "()I"⟩, 25), (⟨"PrickedPagesModel", "wrongOf", "(I)I"⟩, 25), (⟨"PrickedPagesModel", "bothAll", "()I"⟩, 25), (⟨"PrickedPagesModel", "bothOf", "(I)I"⟩, 25), (⟨"PrickedPagesModel", "isWord", "(I)Z"⟩, 25), (⟨"PrickedPagesModel", "fitsOf", "(II)I"⟩, 25), (⟨"PrickedPagesModel", "meantOf", "(II)I"⟩, 25), (⟨"PrickedPagesModel", "withinOf", "(II)I"⟩, 25), (⟨"PrickedPagesModel", "lineOf", "(I)I"⟩, 25)]
theorem lw_r4 : ∀ q ∈ lw_privs_4, lw_okq q := List.forall_mem_cons.mpr ⟨lw_p48, List.forall_mem_cons.mpr ⟨lw_p49, List.forall_mem_cons.mpr ⟨lw_p50, List.forall_mem_cons.mpr ⟨lw_p51, List.forall_mem_cons.mpr ⟨lw_p52, List.forall_mem_cons.mpr ⟨lw_p53, List.forall_mem_cons.mpr ⟨lw_p54, List.forall_mem_cons.mpr ⟨lw_p55, List.forall_mem_cons.mpr ⟨lw_p56, List.forall_mem_cons.mpr ⟨lw_p57, List.forall_mem_cons.mpr ⟨lw_p58, List.forall_mem_cons.mpr ⟨lw_p59, List.forall_mem_cons.mpr ⟨lw_p60, List.forall_mem_cons.mpr ⟨lw_p61, List.forall_mem_cons.mpr ⟨lw_p62, List.forall_mem_cons.mpr ⟨lw_p63, fun _ h => absurd h List.not_mem_nil⟩⟩⟩⟩⟩⟩⟩⟩⟩⟩⟩⟩⟩⟩⟩⟩
theorem lw_p64 : lw_okq (⟨"PrickedPagesModel", "slipperyNow", "()I"⟩, 25) := ⟨⟨by decide +kernel, by decide +kernel⟩, List.mem_of_getElem? (i := 562) (by decide +kernel), List.mem_of_getElem? (i := 813) (by decide +kernel), List.mem_of_getElem? (i := 814) (by decide +kernel)⟩
theorem lw_p65 : lw_okq (⟨"PrickedPagesModel", "betterOf", "(I)I"⟩, 25) := ⟨⟨by decide +kernel, by decide +kernel⟩, List.mem_of_getElem? (i := 562) (by decide +kernel), List.mem_of_getElem? (i := 824) (by decide +kernel), List.mem_of_getElem? (i := 825) (by decide +kernel)⟩
theorem lw_p66 : lw_okq (⟨"PrickedPagesModel", "shortsOf", "(II)I"⟩, 25) := ⟨⟨by decide +kernel, by decide +kernel⟩, List.mem_of_getElem? (i := 562) (by decide +kernel), List.mem_of_getElem? (i := 832) (by decide +kernel), List.mem_of_getElem? (i := 833) (by decide +kernel)⟩
theorem lw_p67 : lw_okq (⟨"PrickedPagesModel", "freeSigns", "()I"⟩, 25) := ⟨⟨by decide +kernel, by decide +kernel⟩, List.mem_of_getElem? (i := 562) (by decide +kernel), List.mem_of_getElem? (i := 836) (by decide +kernel), List.mem_of_getElem? (i := 837) (by decide +kernel)⟩
theorem lw_p68 : lw_okq (⟨"PrickedPagesModel", "underOf", "(II)I"⟩, 25) := ⟨⟨by decide +kernel, by decide +kernel⟩, List.mem_of_getElem? (i := 562) (by decide +kernel), List.mem_of_getElem? (i := 844) (by decide +kernel), List.mem_of_getElem? (i := 845) (by decide +kernel)⟩
theorem lw_p69 : lw_okq (⟨"PrickedPagesModel", "clashOf", "(I)I"⟩, 25) := ⟨⟨by decide +kernel, by decide +kernel⟩, List.mem_of_getElem? (i := 562) (by decide +kernel), List.mem_of_getElem? (i := 852) (by decide +kernel), List.mem_of_getElem? (i := 853) (by decide +kernel)⟩
theorem lw_p70 : lw_okq (⟨"PrickedPagesModel", "whoseNow", "()I"⟩, 25) := ⟨⟨by decide +kernel, by decide +kernel⟩, List.mem_of_getElem? (i := 562) (by decide +kernel), List.mem_of_getElem? (i := 864) (by decide +kernel), List.mem_of_getElem? (i := 865) (by decide +kernel)⟩
theorem lw_p71 : lw_okq (⟨"PrickedPagesModel", "wearOf", "(II)I"⟩, 25) := ⟨⟨by decide +kernel, by decide +kernel⟩, List.mem_of_getElem? (i := 562) (by decide +kernel), List.mem_of_getElem? (i := 872) (by decide +kernel), List.mem_of_getElem? (i := 873) (by decide +kernel)⟩
theorem lw_p72 : lw_okq (⟨"PrickedPagesModel", "lacks", "(III)I"⟩, 25) := ⟨⟨by decide +kernel, by decide +kernel⟩, List.mem_of_getElem? (i := 562) (by decide +kernel), List.mem_of_getElem? (i := 888) (by decide +kernel), List.mem_of_getElem? (i := 889) (by decide +kernel)⟩
theorem lw_p73 : lw_okq (⟨"PrickedPagesModel", "keep", "(III)V"⟩, 25) := ⟨⟨by decide +kernel, by decide +kernel⟩, List.mem_of_getElem? (i := 562) (by decide +kernel), List.mem_of_getElem? (i := 892) (by decide +kernel), List.mem_of_getElem? (i := 893) (by decide +kernel)⟩
theorem lw_p74 : lw_okq (⟨"PrickedPagesModel", "sumOf", "(I)I"⟩, 25) := ⟨⟨by decide +kernel, by decide +kernel⟩, List.mem_of_getElem? (i := 562) (by decide +kernel), List.mem_of_getElem? (i := 913) (by decide +kernel), List.mem_of_getElem? (i := 914) (by decide +kernel)⟩
def lw_privs_5 : List (MethodName × Nat) := [(⟨"PrickedPagesModel", "slipperyNow", "()I"⟩, 25), (⟨"PrickedPagesModel", "betterOf", "(I)I"⟩, 25), (⟨"PrickedPagesModel", "shortsOf", "(II)I"⟩, 25), (⟨"PrickedPagesModel", "freeSigns", "()I"⟩, 25), (⟨"PrickedPagesModel", "underOf", "(II)I"⟩, 25), (⟨"PrickedPagesModel", "clashOf", "(I)I"⟩, 25), (⟨"PrickedPagesModel", "whoseNow", "()I"⟩, 25), (⟨"PrickedPagesModel", "wearOf", "(II)I"⟩, 25), (⟨"PrickedPagesModel", "lacks", "(III)I"⟩, 25), (⟨"PrickedPagesModel", "keep", "(III)V"⟩, 25), (⟨"PrickedPagesModel", "sumOf", "(I)I"⟩, 25)]
theorem lw_r5 : ∀ q ∈ lw_privs_5, lw_okq q := List.forall_mem_cons.mpr ⟨lw_p64, List.forall_mem_cons.mpr ⟨lw_p65, List.forall_mem_cons.mpr ⟨lw_p66, List.forall_mem_cons.mpr ⟨lw_p67, List.forall_mem_cons.mpr ⟨lw_p68, List.forall_mem_cons.mpr ⟨lw_p69, List.forall_mem_cons.mpr ⟨lw_p70, List.forall_mem_cons.mpr ⟨lw_p71, List.forall_mem_cons.mpr ⟨lw_p72, List.forall_mem_cons.mpr ⟨lw_p73, List.forall_mem_cons.mpr ⟨lw_p74, fun _ h => absurd h List.not_mem_nil⟩⟩⟩⟩⟩⟩⟩⟩⟩⟩⟩
def lw_privs : List (MethodName × Nat) := lw_privs_1 ++ (lw_privs_2 ++ (lw_privs_3 ++ (lw_privs_4 ++ (lw_privs_5))))
def lw_tbl : List Cond := k2_sels lw_privs ++ tables_1
theorem lw_privs_ok : ∀ q ∈ lw_privs, lw_okq q := by
  show ∀ q ∈ lw_privs_1 ++ (lw_privs_2 ++ (lw_privs_3 ++ (lw_privs_4 ++ (lw_privs_5)))), lw_okq q
  exact List.forall_mem_append.mpr ⟨lw_r1, List.forall_mem_append.mpr ⟨lw_r2, List.forall_mem_append.mpr ⟨lw_r3, List.forall_mem_append.mpr ⟨lw_r4, lw_r5⟩⟩⟩⟩
def RX0 : String := "PrickedPages$Sheet"
def TX0 : u_T := fun k => match k with
  | 0 => ("PrickedPages$Sheet", "items", "[I", true)
  | 1 => ("PrickedPages$Sheet", "form", "I", false)
  | _ => ("PrickedPages$Sheet", "size", "I", false)
def tyX0 : Nat → FieldType := fun k => match k with
  | 0 => .array .int
  | 1 => .int
  | _ => .int
abbrev wsX00 : List Cond := u_ws RX0 TX0 3
theorem nmX0 : ∀ a, a < 3 → ∀ b, b < 3 → a ≠ b → (TX0 a).2.1 ≠ (TX0 b).2.1 := by decide +kernel
theorem tyX0_ok : ∀ k, k < 3 → parseFieldDescriptor (TX0 k).2.2.1 = some (tyX0 k) := by decide +kernel
abbrev cX0_init : ByteArray := prog_2_method_1_code
def yX0_init : MethodName := ⟨RX0, "<init>", "()V"⟩
abbrev cX0_isLost : ByteArray := prog_2_method_2_code
def yX0_isLost : MethodName := ⟨RX0, "isLost", "()Z"⟩
abbrev cX0_renew : ByteArray := prog_2_method_3_code
def yX0_renew : MethodName := ⟨RX0, "renew", "(II)V"⟩
abbrev cX0_hasStretch : ByteArray := prog_2_method_4_code
def yX0_hasStretch : MethodName := ⟨RX0, "hasStretch", "(II)Z"⟩
abbrev cX0_store : ByteArray := prog_2_method_5_code
def yX0_store : MethodName := ⟨RX0, "store", "(II)V"⟩
def RX1 : String := "PrickedPages$Slips"
def TX1 : u_T := fun k => match k with
  | 0 => ("PrickedPages$Slips", "places", "[I", true)
  | 1 => ("PrickedPages$Slips", "points", "[I", true)
  | 2 => ("PrickedPages$Slips", "raised", "[I", true)
  | _ => ("PrickedPages$Slips", "many", "I", false)
def tyX1 : Nat → FieldType := fun k => match k with
  | 0 => .array .int
  | 1 => .array .int
  | 2 => .array .int
  | _ => .int
abbrev wsX10 : List Cond := u_ws RX1 TX1 4
theorem nmX1 : ∀ a, a < 4 → ∀ b, b < 4 → a ≠ b → (TX1 a).2.1 ≠ (TX1 b).2.1 := by decide +kernel
theorem tyX1_ok : ∀ k, k < 4 → parseFieldDescriptor (TX1 k).2.2.1 = some (tyX1 k) := by decide +kernel
abbrev cX1_init : ByteArray := prog_3_method_1_code
def yX1_init : MethodName := ⟨RX1, "<init>", "()V"⟩
abbrev cX1_add : ByteArray := prog_3_method_2_code
def yX1_add : MethodName := ⟨RX1, "add", "(III)V"⟩
abbrev cX1_pointsAt : ByteArray := prog_3_method_3_code
def yX1_pointsAt : MethodName := ⟨RX1, "pointsAt", "(II)I"⟩
def RX2 : String := "PrickedPages$Text"
def TX2 : u_T := fun k => match k with
  | 0 => ("PrickedPages$Text", "bytes", "[I", true)
  | _ => ("PrickedPages$Text", "length", "I", false)
def tyX2 : Nat → FieldType := fun k => match k with
  | 0 => .array .int
  | _ => .int
abbrev wsX20 : List Cond := u_ws RX2 TX2 2
theorem nmX2 : ∀ a, a < 2 → ∀ b, b < 2 → a ≠ b → (TX2 a).2.1 ≠ (TX2 b).2.1 := by decide +kernel
theorem tyX2_ok : ∀ k, k < 2 → parseFieldDescriptor (TX2 k).2.2.1 = some (tyX2 k) := by decide +kernel
abbrev cX2_init : ByteArray := prog_4_method_1_code
def yX2_init : MethodName := ⟨RX2, "<init>", "(I)V"⟩
abbrev cX2_hasRoom : ByteArray := prog_4_method_2_code
def yX2_hasRoom : MethodName := ⟨RX2, "hasRoom", "()Z"⟩
abbrev cX2_append : ByteArray := prog_4_method_3_code
def yX2_append : MethodName := ⟨RX2, "append", "(I)V"⟩
def RX3 : String := "PrickedPages$WordList"
def TX3 : u_T := fun k => match k with
  | 0 => ("PrickedPages$WordList", "text", "LPrickedPages$Text;", true)
  | 1 => ("PrickedPages$WordList", "letters", "[I", true)
  | 2 => ("PrickedPages$WordList", "lengths", "[I", true)
  | 3 => ("PrickedPages$WordList", "many", "I", false)
  | _ => ("PrickedPages$WordList", "faultPlace", "I", false)
def tyX3 : Nat → FieldType := fun k => match k with
  | 0 => .object "PrickedPages$Text"
  | 1 => .array .int
  | 2 => .array .int
  | 3 => .int
  | _ => .int
abbrev wsX30 : List Cond := u_ws RX3 TX3 5
theorem nmX3 : ∀ a, a < 5 → ∀ b, b < 5 → a ≠ b → (TX3 a).2.1 ≠ (TX3 b).2.1 := by decide +kernel
theorem tyX3_ok : ∀ k, k < 5 → parseFieldDescriptor (TX3 k).2.2.1 = some (tyX3 k) := by decide +kernel
abbrev cX3_init : ByteArray := prog_5_method_1_code
def yX3_init : MethodName := ⟨RX3, "<init>", "()V"⟩
abbrev cX3_has : ByteArray := prog_5_method_2_code
def yX3_has : MethodName := ⟨RX3, "has", "(I)Z"⟩
abbrev cX3_lettersOf : ByteArray := prog_5_method_3_code
def yX3_lettersOf : MethodName := ⟨RX3, "lettersOf", "(I)I"⟩
abbrev cX3_letterOf : ByteArray := prog_5_method_4_code
def yX3_letterOf : MethodName := ⟨RX3, "letterOf", "(II)I"⟩
abbrev cX3_split : ByteArray := prog_5_method_5_code
def yX3_split : MethodName := ⟨RX3, "split", "()V"⟩
abbrev cX3_firstFault : ByteArray := prog_5_method_6_code
def yX3_firstFault : MethodName := ⟨RX3, "firstFault", "()I"⟩
def RX4 : String := "PrickedPages"
def TX4 : u_T := fun k => match k with
  | 0 => ("PrickedPages", "page", "LPrickedPages$Text;", true)
  | 1 => ("PrickedPages", "list", "LPrickedPages$WordList;", true)
  | 2 => ("PrickedPages", "slips", "LPrickedPages$Slips;", true)
  | 3 => ("PrickedPages", "signs", "[I", true)
  | 4 => ("PrickedPages", "cells", "[I", true)
  | 5 => ("PrickedPages", "cellCount", "I", false)
  | 6 => ("PrickedPages", "missCost", "I", false)
  | 7 => ("PrickedPages", "extraCost", "I", false)
  | 8 => ("PrickedPages", "comes", "[I", true)
  | 9 => ("PrickedPages", "habits", "[I", true)
  | 10 => ("PrickedPages", "sheets", "[LPrickedPages$Sheet;", true)
  | 11 => ("PrickedPages", "latestFinding", "I", false)
  | 12 => ("PrickedPages", "worn", "[I", true)
  | _ => ("PrickedPages", "bestFrom", "[I", true)
def tyX4 : Nat → FieldType := fun k => match k with
  | 0 => .object "PrickedPages$Text"
  | 1 => .object "PrickedPages$WordList"
  | 2 => .object "PrickedPages$Slips"
  | 3 => .array .int
  | 4 => .array .int
  | 5 => .int
  | 6 => .int
  | 7 => .int
  | 8 => .array .int
  | 9 => .array .int
  | 10 => .array (.object "PrickedPages$Sheet")
  | 11 => .int
  | 12 => .array .int
  | _ => .array .int
abbrev wsX40 : List Cond := u_ws RX4 TX4 14
theorem nmX4 : ∀ a, a < 14 → ∀ b, b < 14 → a ≠ b → (TX4 a).2.1 ≠ (TX4 b).2.1 := by decide +kernel
theorem tyX4_ok : ∀ k, k < 14 → parseFieldDescriptor (TX4 k).2.2.1 = some (tyX4 k) := by decide +kernel
abbrev cX4_init : ByteArray := prog_1_method_1_code
def yX4_init : MethodName := ⟨RX4, "<init>", "()V"⟩
abbrev cX4_type : ByteArray := prog_1_method_2_code
def yX4_type : MethodName := ⟨RX4, "type", "(II)I"⟩
abbrev cX4_wipe : ByteArray := prog_1_method_3_code
def yX4_wipe : MethodName := ⟨RX4, "wipe", "(I)I"⟩
abbrev cX4_fault : ByteArray := prog_1_method_4_code
def yX4_fault : MethodName := ⟨RX4, "fault", "(I)I"⟩
abbrev cX4_sign : ByteArray := prog_1_method_5_code
def yX4_sign : MethodName := ⟨RX4, "sign", "(II)I"⟩
abbrev cX4_read : ByteArray := prog_1_method_6_code
def yX4_read : MethodName := ⟨RX4, "read", "(I)I"⟩
abbrev cX4_slip : ByteArray := prog_1_method_7_code
def yX4_slip : MethodName := ⟨RX4, "slip", "(III)I"⟩
abbrev cX4_undo : ByteArray := prog_1_method_8_code
def yX4_undo : MethodName := ⟨RX4, "undo", "()I"⟩
abbrev cX4_set : ByteArray := prog_1_method_9_code
def yX4_set : MethodName := ⟨RX4, "set", "(II)I"⟩
abbrev cX4_often : ByteArray := prog_1_method_10_code
def yX4_often : MethodName := ⟨RX4, "often", "(II)I"⟩
abbrev cX4_cell : ByteArray := prog_1_method_11_code
def yX4_cell : MethodName := ⟨RX4, "cell", "(I)I"⟩
abbrev cX4_letter : ByteArray := prog_1_method_12_code
def yX4_letter : MethodName := ⟨RX4, "letter", "(I)I"⟩
abbrev cX4_judged : ByteArray := prog_1_method_13_code
def yX4_judged : MethodName := ⟨RX4, "judged", "()I"⟩
abbrev cX4_wrong : ByteArray := prog_1_method_14_code
def yX4_wrong : MethodName := ⟨RX4, "wrong", "(I)I"⟩
abbrev cX4_mirrored : ByteArray := prog_1_method_15_code
def yX4_mirrored : MethodName := ⟨RX4, "mirrored", "(I)I"⟩
abbrev cX4_both : ByteArray := prog_1_method_16_code
def yX4_both : MethodName := ⟨RX4, "both", "(I)I"⟩
abbrev cX4_fits : ByteArray := prog_1_method_17_code
def yX4_fits : MethodName := ⟨RX4, "fits", "(II)I"⟩
abbrev cX4_meant : ByteArray := prog_1_method_18_code
def yX4_meant : MethodName := ⟨RX4, "meant", "(II)I"⟩
abbrev cX4_within : ByteArray := prog_1_method_19_code
def yX4_within : MethodName := ⟨RX4, "within", "(II)I"⟩
abbrev cX4_line : ByteArray := prog_1_method_20_code
def yX4_line : MethodName := ⟨RX4, "line", "(I)I"⟩
abbrev cX4_slippery : ByteArray := prog_1_method_21_code
def yX4_slippery : MethodName := ⟨RX4, "slippery", "()I"⟩
abbrev cX4_better : ByteArray := prog_1_method_22_code
def yX4_better : MethodName := ⟨RX4, "better", "(I)I"⟩
abbrev cX4_shorts : ByteArray := prog_1_method_23_code
def yX4_shorts : MethodName := ⟨RX4, "shorts", "(II)I"⟩
abbrev cX4_under : ByteArray := prog_1_method_24_code
def yX4_under : MethodName := ⟨RX4, "under", "(II)I"⟩
abbrev cX4_clash : ByteArray := prog_1_method_25_code
def yX4_clash : MethodName := ⟨RX4, "clash", "(I)I"⟩
abbrev cX4_hand : ByteArray := prog_1_method_26_code
def yX4_hand : MethodName := ⟨RX4, "hand", "(III)I"⟩
abbrev cX4_whose : ByteArray := prog_1_method_27_code
def yX4_whose : MethodName := ⟨RX4, "whose", "()I"⟩
abbrev cX4_wear : ByteArray := prog_1_method_28_code
def yX4_wear : MethodName := ⟨RX4, "wear", "(II)I"⟩
abbrev cX4_sheet : ByteArray := prog_1_method_29_code
def yX4_sheet : MethodName := ⟨RX4, "sheet", "(III)I"⟩
abbrev cX4_lose : ByteArray := prog_1_method_30_code
def yX4_lose : MethodName := ⟨RX4, "lose", "(I)I"⟩
abbrev cX4_put : ByteArray := prog_1_method_31_code
def yX4_put : MethodName := ⟨RX4, "put", "(IIII)I"⟩
abbrev cX4_get : ByteArray := prog_1_method_32_code
def yX4_get : MethodName := ⟨RX4, "get", "(III)I"⟩
abbrev cX4_copy : ByteArray := prog_1_method_33_code
def yX4_copy : MethodName := ⟨RX4, "copy", "(IIIII)I"⟩
abbrev cX4_write : ByteArray := prog_1_method_34_code
def yX4_write : MethodName := ⟨RX4, "write", "(I)I"⟩
abbrev cX4_count : ByteArray := prog_1_method_35_code
def yX4_count : MethodName := ⟨RX4, "count", "(I)I"⟩
abbrev cX4_digest : ByteArray := prog_1_method_36_code
def yX4_digest : MethodName := ⟨RX4, "digest", "()J"⟩
abbrev cX4_mixCells : ByteArray := prog_1_method_37_code
def yX4_mixCells : MethodName := ⟨RX4, "mixCells", "(J)J"⟩
abbrev cX4_mixWords : ByteArray := prog_1_method_38_code
def yX4_mixWords : MethodName := ⟨RX4, "mixWords", "(J)J"⟩
abbrev cX4_mix : ByteArray := prog_1_method_39_code
def yX4_mix : MethodName := ⟨RX4, "mix", "(JJ)J"⟩
abbrev cX4_at : ByteArray := prog_1_method_40_code
def yX4_at : MethodName := ⟨RX4, "at", "([II)I"⟩
abbrev cX4_lay : ByteArray := prog_1_method_41_code
def yX4_lay : MethodName := ⟨RX4, "lay", "([III)V"⟩
abbrev cX4_isWithin : ByteArray := prog_1_method_42_code
def yX4_isWithin : MethodName := ⟨RX4, "isWithin", "(III)Z"⟩
abbrev cX4_isSign : ByteArray := prog_1_method_43_code
def yX4_isSign : MethodName := ⟨RX4, "isSign", "(I)Z"⟩
abbrev cX4_isForm : ByteArray := prog_1_method_44_code
def yX4_isForm : MethodName := ⟨RX4, "isForm", "(I)Z"⟩
abbrev cX4_isCell : ByteArray := prog_1_method_45_code
def yX4_isCell : MethodName := ⟨RX4, "isCell", "(I)Z"⟩
abbrev cX4_pointsOf : ByteArray := prog_1_method_46_code
def yX4_pointsOf : MethodName := ⟨RX4, "pointsOf", "([II)I"⟩
abbrev cX4_textAt : ByteArray := prog_1_method_47_code
def yX4_textAt : MethodName := ⟨RX4, "textAt", "(I)LPrickedPages$Text;"⟩
abbrev cX4_pageFault : ByteArray := prog_1_method_48_code
def yX4_pageFault : MethodName := ⟨RX4, "pageFault", "()I"⟩
abbrev cX4_isLetter : ByteArray := prog_1_method_49_code
def yX4_isLetter : MethodName := ⟨RX4, "isLetter", "(I)Z"⟩
abbrev cX4_layTexts : ByteArray := prog_1_method_50_code
def yX4_layTexts : MethodName := ⟨RX4, "layTexts", "()V"⟩
abbrev cX4_layCells : ByteArray := prog_1_method_51_code
def yX4_layCells : MethodName := ⟨RX4, "layCells", "()V"⟩
abbrev cX4_printedAt : ByteArray := prog_1_method_52_code
def yX4_printedAt : MethodName := ⟨RX4, "printedAt", "(I)I"⟩
abbrev cX4_readingOf : ByteArray := prog_1_method_53_code
def yX4_readingOf : MethodName := ⟨RX4, "readingOf", "(I)I"⟩
abbrev cX4_swapColumns : ByteArray := prog_1_method_54_code
def yX4_swapColumns : MethodName := ⟨RX4, "swapColumns", "(I)I"⟩
abbrev cX4_cellsOfLetters : ByteArray := prog_1_method_55_code
def yX4_cellsOfLetters : MethodName := ⟨RX4, "cellsOfLetters", "()I"⟩
abbrev cX4_signOf : ByteArray := prog_1_method_56_code
def yX4_signOf : MethodName := ⟨RX4, "signOf", "(II)I"⟩
abbrev cX4_wordsBothWays : ByteArray := prog_1_method_57_code
def yX4_wordsBothWays : MethodName := ⟨RX4, "wordsBothWays", "()I"⟩
abbrev cX4_wordFromBehind : ByteArray := prog_1_method_58_code
def yX4_wordFromBehind : MethodName := ⟨RX4, "wordFromBehind", "(I)I"⟩
abbrev cX4_isReadFromBehindAs : ByteArray := prog_1_method_59_code
def yX4_isReadFromBehindAs : MethodName := ⟨RX4, "isReadFromBehindAs", "(II)Z"⟩
abbrev cX4_hasCellsFor : ByteArray := prog_1_method_60_code
def yX4_hasCellsFor : MethodName := ⟨RX4, "hasCellsFor", "(II)Z"⟩
abbrev cX4_costAt : ByteArray := prog_1_method_61_code
def yX4_costAt : MethodName := ⟨RX4, "costAt", "(II)I"⟩
abbrev cX4_cheapestAt : ByteArray := prog_1_method_62_code
def yX4_cheapestAt : MethodName := ⟨RX4, "cheapestAt", "(I)I"⟩
abbrev cX4_bestLine : ByteArray := prog_1_method_63_code
def yX4_bestLine : MethodName := ⟨RX4, "bestLine", "()I"⟩
abbrev cX4_bestBehindWord : ByteArray := prog_1_method_64_code
def yX4_bestBehindWord : MethodName := ⟨RX4, "bestBehindWord", "(I)I"⟩
abbrev cX4_isOnePointLess : ByteArray := prog_1_method_65_code
def yX4_isOnePointLess : MethodName := ⟨RX4, "isOnePointLess", "(II)Z"⟩
abbrev cX4_isApartFromOthers : ByteArray := prog_1_method_66_code
def yX4_isApartFromOthers : MethodName := ⟨RX4, "isApartFromOthers", "(II)Z"⟩
abbrev cX4_freeSigns : ByteArray := prog_1_method_67_code
def yX4_freeSigns : MethodName := ⟨RX4, "freeSigns", "()I"⟩
abbrev cX4_shortened : ByteArray := prog_1_method_68_code
def yX4_shortened : MethodName := ⟨RX4, "shortened", "(I)I"⟩
abbrev cX4_mostSavingBut : ByteArray := prog_1_method_69_code
def yX4_mostSavingBut : MethodName := ⟨RX4, "mostSavingBut", "(I)I"⟩
abbrev cX4_savedBy : ByteArray := prog_1_method_70_code
def yX4_savedBy : MethodName := ⟨RX4, "savedBy", "(I)I"⟩
abbrev cX4_lieTogether : ByteArray := prog_1_method_71_code
def yX4_lieTogether : MethodName := ⟨RX4, "lieTogether", "(III)Z"⟩
abbrev cX4_firstClash : ByteArray := prog_1_method_72_code
def yX4_firstClash : MethodName := ⟨RX4, "firstClash", "(LPrickedPages$Sheet;)I"⟩
abbrev cX4_skippedAt : ByteArray := prog_1_method_73_code
def yX4_skippedAt : MethodName := ⟨RX4, "skippedAt", "(I)I"⟩
abbrev cX4_skippedBy : ByteArray := prog_1_method_74_code
def yX4_skippedBy : MethodName := ⟨RX4, "skippedBy", "(I)I"⟩
abbrev cX4_wearDown : ByteArray := prog_1_method_75_code
def yX4_wearDown : MethodName := ⟨RX4, "wearDown", "(I)V"⟩
abbrev cX4_nextRaised : ByteArray := prog_1_method_76_code
def yX4_nextRaised : MethodName := ⟨RX4, "nextRaised", "(I)I"⟩
abbrev cX4_withoutGreatestPoint : ByteArray := prog_1_method_77_code
def yX4_withoutGreatestPoint : MethodName := ⟨RX4, "withoutGreatestPoint", "(I)I"⟩
abbrev cX4_sheetAt : ByteArray := prog_1_method_78_code
def yX4_sheetAt : MethodName := ⟨RX4, "sheetAt", "(I)LPrickedPages$Sheet;"⟩
abbrev cX4_find : ByteArray := prog_1_method_79_code
def yX4_find : MethodName := ⟨RX4, "find", "(I)I"⟩
abbrev cX4_itemFinding : ByteArray := prog_1_method_80_code
def yX4_itemFinding : MethodName := ⟨RX4, "itemFinding", "(LPrickedPages$Sheet;II)I"⟩
def RX5 : String := "PrickedPagesModel"
def TX5 : u_T := fun k => match k with
  | 0 => ("PrickedPagesModel", "signs", "[I", true)
  | 1 => ("PrickedPagesModel", "typed", "[I", true)
  | 2 => ("PrickedPagesModel", "texts", "[I", true)
  | 3 => ("PrickedPagesModel", "cells", "I", false)
  | 4 => ("PrickedPagesModel", "page", "[I", true)
  | 5 => ("PrickedPagesModel", "words", "I", false)
  | 6 => ("PrickedPagesModel", "letters", "[I", true)
  | 7 => ("PrickedPagesModel", "lengths", "[I", true)
  | 8 => ("PrickedPagesModel", "miss", "I", false)
  | 9 => ("PrickedPagesModel", "extra", "I", false)
  | 10 => ("PrickedPagesModel", "oftens", "[I", true)
  | 11 => ("PrickedPagesModel", "slips", "I", false)
  | 12 => ("PrickedPagesModel", "slipCell", "[I", true)
  | 13 => ("PrickedPagesModel", "slipPoint", "[I", true)
  | 14 => ("PrickedPagesModel", "slipIs", "[I", true)
  | 15 => ("PrickedPagesModel", "free", "[I", true)
  | 16 => ("PrickedPagesModel", "bound", "[I", true)
  | 17 => ("PrickedPagesModel", "hands", "[I", true)
  | 18 => ("PrickedPagesModel", "worn", "[I", true)
  | 19 => ("PrickedPagesModel", "isThere", "[Z", true)
  | 20 => ("PrickedPagesModel", "forms", "[I", true)
  | 21 => ("PrickedPagesModel", "sizes", "[I", true)
  | 22 => ("PrickedPagesModel", "items", "[I", true)
  | 23 => ("PrickedPagesModel", "moved", "[I", true)
  | _ => ("PrickedPagesModel", "finding", "I", false)
def tyX5 : Nat → FieldType := fun k => match k with
  | 0 => .array .int
  | 1 => .array .int
  | 2 => .array .int
  | 3 => .int
  | 4 => .array .int
  | 5 => .int
  | 6 => .array .int
  | 7 => .array .int
  | 8 => .int
  | 9 => .int
  | 10 => .array .int
  | 11 => .int
  | 12 => .array .int
  | 13 => .array .int
  | 14 => .array .int
  | 15 => .array .int
  | 16 => .array .int
  | 17 => .array .int
  | 18 => .array .int
  | 19 => .array .boolean
  | 20 => .array .int
  | 21 => .array .int
  | 22 => .array .int
  | 23 => .array .int
  | _ => .int
abbrev wsX50 : List Cond := u_ws RX5 TX5 25
theorem nmX5 : ∀ a, a < 25 → ∀ b, b < 25 → a ≠ b → (TX5 a).2.1 ≠ (TX5 b).2.1 := by decide +kernel
theorem tyX5_ok : ∀ k, k < 25 → parseFieldDescriptor (TX5 k).2.2.1 = some (tyX5 k) := by decide +kernel
abbrev cX5_init : ByteArray := prog_7_method_1_code
def yX5_init : MethodName := ⟨RX5, "<init>", "()V"⟩
abbrev cX5_in : ByteArray := prog_7_method_3_code
def yX5_in : MethodName := ⟨RX5, "in", "(III)Z"⟩
abbrev cX5_ones : ByteArray := prog_7_method_4_code
def yX5_ones : MethodName := ⟨RX5, "ones", "(I)I"⟩
abbrev cX5_type : ByteArray := prog_7_method_5_code
def yX5_type : MethodName := ⟨RX5, "type", "(II)I"⟩
abbrev cX5_wipe : ByteArray := prog_7_method_6_code
def yX5_wipe : MethodName := ⟨RX5, "wipe", "(I)I"⟩
abbrev cX5_letterAt : ByteArray := prog_7_method_7_code
def yX5_letterAt : MethodName := ⟨RX5, "letterAt", "(II)I"⟩
abbrev cX5_readsPage : ByteArray := prog_7_method_8_code
def yX5_readsPage : MethodName := ⟨RX5, "readsPage", "()I"⟩
abbrev cX5_readsWords : ByteArray := prog_7_method_9_code
def yX5_readsWords : MethodName := ⟨RX5, "readsWords", "()I"⟩
abbrev cX5_faultOf : ByteArray := prog_7_method_10_code
def yX5_faultOf : MethodName := ⟨RX5, "faultOf", "(I)I"⟩
abbrev cX5_reads : ByteArray := prog_7_method_11_code
def yX5_reads : MethodName := ⟨RX5, "reads", "()V"⟩
abbrev cX5_fault : ByteArray := prog_7_method_12_code
def yX5_fault : MethodName := ⟨RX5, "fault", "(I)I"⟩
abbrev cX5_isCell : ByteArray := prog_7_method_13_code
def yX5_isCell : MethodName := ⟨RX5, "isCell", "(I)Z"⟩
abbrev cX5_isWord : ByteArray := prog_7_method_14_code
def yX5_isWord : MethodName := ⟨RX5, "isWord", "(I)Z"⟩
abbrev cX5_sign : ByteArray := prog_7_method_15_code
def yX5_sign : MethodName := ⟨RX5, "sign", "(II)I"⟩
abbrev cX5_read : ByteArray := prog_7_method_16_code
def yX5_read : MethodName := ⟨RX5, "read", "(I)I"⟩
abbrev cX5_slip : ByteArray := prog_7_method_17_code
def yX5_slip : MethodName := ⟨RX5, "slip", "(III)I"⟩
abbrev cX5_undo : ByteArray := prog_7_method_18_code
def yX5_undo : MethodName := ⟨RX5, "undo", "()I"⟩
abbrev cX5_set : ByteArray := prog_7_method_19_code
def yX5_set : MethodName := ⟨RX5, "set", "(II)I"⟩
abbrev cX5_often : ByteArray := prog_7_method_20_code
def yX5_often : MethodName := ⟨RX5, "often", "(II)I"⟩
abbrev cX5_signOf : ByteArray := prog_7_method_21_code
def yX5_signOf : MethodName := ⟨RX5, "signOf", "(I)I"⟩
abbrev cX5_cellOf : ByteArray := prog_7_method_22_code
def yX5_cellOf : MethodName := ⟨RX5, "cellOf", "(I)I"⟩
abbrev cX5_cell : ByteArray := prog_7_method_23_code
def yX5_cell : MethodName := ⟨RX5, "cell", "(I)I"⟩
abbrev cX5_readAs : ByteArray := prog_7_method_24_code
def yX5_readAs : MethodName := ⟨RX5, "readAs", "(I)I"⟩
abbrev cX5_letter : ByteArray := prog_7_method_25_code
def yX5_letter : MethodName := ⟨RX5, "letter", "(I)I"⟩
abbrev cX5_judgedNow : ByteArray := prog_7_method_26_code
def yX5_judgedNow : MethodName := ⟨RX5, "judgedNow", "()I"⟩
abbrev cX5_judged : ByteArray := prog_7_method_27_code
def yX5_judged : MethodName := ⟨RX5, "judged", "()I"⟩
abbrev cX5_turned : ByteArray := prog_7_method_28_code
def yX5_turned : MethodName := ⟨RX5, "turned", "(I)I"⟩
abbrev cX5_wrongOf : ByteArray := prog_7_method_29_code
def yX5_wrongOf : MethodName := ⟨RX5, "wrongOf", "(I)I"⟩
abbrev cX5_wrong : ByteArray := prog_7_method_30_code
def yX5_wrong : MethodName := ⟨RX5, "wrong", "(I)I"⟩
abbrev cX5_mirrored : ByteArray := prog_7_method_31_code
def yX5_mirrored : MethodName := ⟨RX5, "mirrored", "(I)I"⟩
abbrev cX5_bothOf : ByteArray := prog_7_method_32_code
def yX5_bothOf : MethodName := ⟨RX5, "bothOf", "(I)I"⟩
abbrev cX5_bothAll : ByteArray := prog_7_method_33_code
def yX5_bothAll : MethodName := ⟨RX5, "bothAll", "()I"⟩
abbrev cX5_both : ByteArray := prog_7_method_34_code
def yX5_both : MethodName := ⟨RX5, "both", "(I)I"⟩
abbrev cX5_fitsOf : ByteArray := prog_7_method_35_code
def yX5_fitsOf : MethodName := ⟨RX5, "fitsOf", "(II)I"⟩
abbrev cX5_fits : ByteArray := prog_7_method_36_code
def yX5_fits : MethodName := ⟨RX5, "fits", "(II)I"⟩
abbrev cX5_meantOf : ByteArray := prog_7_method_37_code
def yX5_meantOf : MethodName := ⟨RX5, "meantOf", "(II)I"⟩
abbrev cX5_meant : ByteArray := prog_7_method_38_code
def yX5_meant : MethodName := ⟨RX5, "meant", "(II)I"⟩
abbrev cX5_withinOf : ByteArray := prog_7_method_39_code
def yX5_withinOf : MethodName := ⟨RX5, "withinOf", "(II)I"⟩
abbrev cX5_within : ByteArray := prog_7_method_40_code
def yX5_within : MethodName := ⟨RX5, "within", "(II)I"⟩
abbrev cX5_lineOf : ByteArray := prog_7_method_41_code
def yX5_lineOf : MethodName := ⟨RX5, "lineOf", "(I)I"⟩
abbrev cX5_line : ByteArray := prog_7_method_42_code
def yX5_line : MethodName := ⟨RX5, "line", "(I)I"⟩
abbrev cX5_isLess : ByteArray := prog_7_method_43_code
def yX5_isLess : MethodName := ⟨RX5, "isLess", "(II)Z"⟩
abbrev cX5_slipperyNow : ByteArray := prog_7_method_44_code
def yX5_slipperyNow : MethodName := ⟨RX5, "slipperyNow", "()I"⟩
abbrev cX5_slippery : ByteArray := prog_7_method_45_code
def yX5_slippery : MethodName := ⟨RX5, "slippery", "()I"⟩
abbrev cX5_betterOf : ByteArray := prog_7_method_46_code
def yX5_betterOf : MethodName := ⟨RX5, "betterOf", "(I)I"⟩
abbrev cX5_better : ByteArray := prog_7_method_47_code
def yX5_better : MethodName := ⟨RX5, "better", "(I)I"⟩
abbrev cX5_freeSigns : ByteArray := prog_7_method_48_code
def yX5_freeSigns : MethodName := ⟨RX5, "freeSigns", "()I"⟩
abbrev cX5_shortsOf : ByteArray := prog_7_method_49_code
def yX5_shortsOf : MethodName := ⟨RX5, "shortsOf", "(II)I"⟩
abbrev cX5_shorts : ByteArray := prog_7_method_50_code
def yX5_shorts : MethodName := ⟨RX5, "shorts", "(II)I"⟩
abbrev cX5_underOf : ByteArray := prog_7_method_51_code
def yX5_underOf : MethodName := ⟨RX5, "underOf", "(II)I"⟩
abbrev cX5_under : ByteArray := prog_7_method_52_code
def yX5_under : MethodName := ⟨RX5, "under", "(II)I"⟩
abbrev cX5_clashOf : ByteArray := prog_7_method_53_code
def yX5_clashOf : MethodName := ⟨RX5, "clashOf", "(I)I"⟩
abbrev cX5_clash : ByteArray := prog_7_method_54_code
def yX5_clash : MethodName := ⟨RX5, "clash", "(I)I"⟩
abbrev cX5_hand : ByteArray := prog_7_method_55_code
def yX5_hand : MethodName := ⟨RX5, "hand", "(III)I"⟩
abbrev cX5_whoseNow : ByteArray := prog_7_method_56_code
def yX5_whoseNow : MethodName := ⟨RX5, "whoseNow", "()I"⟩
abbrev cX5_whose : ByteArray := prog_7_method_57_code
def yX5_whose : MethodName := ⟨RX5, "whose", "()I"⟩
abbrev cX5_wearOf : ByteArray := prog_7_method_58_code
def yX5_wearOf : MethodName := ⟨RX5, "wearOf", "(II)I"⟩
abbrev cX5_wear : ByteArray := prog_7_method_59_code
def yX5_wear : MethodName := ⟨RX5, "wear", "(II)I"⟩
abbrev cX5_meets : ByteArray := prog_7_method_60_code
def yX5_meets : MethodName := ⟨RX5, "meets", "(I)I"⟩
abbrev cX5_isSheet : ByteArray := prog_7_method_61_code
def yX5_isSheet : MethodName := ⟨RX5, "isSheet", "(I)Z"⟩
abbrev cX5_sheet : ByteArray := prog_7_method_62_code
def yX5_sheet : MethodName := ⟨RX5, "sheet", "(III)I"⟩
abbrev cX5_lose : ByteArray := prog_7_method_63_code
def yX5_lose : MethodName := ⟨RX5, "lose", "(I)I"⟩
abbrev cX5_lacks : ByteArray := prog_7_method_64_code
def yX5_lacks : MethodName := ⟨RX5, "lacks", "(III)I"⟩
abbrev cX5_keep : ByteArray := prog_7_method_65_code
def yX5_keep : MethodName := ⟨RX5, "keep", "(III)V"⟩
abbrev cX5_put : ByteArray := prog_7_method_66_code
def yX5_put : MethodName := ⟨RX5, "put", "(IIII)I"⟩
abbrev cX5_get : ByteArray := prog_7_method_67_code
def yX5_get : MethodName := ⟨RX5, "get", "(III)I"⟩
abbrev cX5_copy : ByteArray := prog_7_method_68_code
def yX5_copy : MethodName := ⟨RX5, "copy", "(IIIII)I"⟩
abbrev cX5_write : ByteArray := prog_7_method_69_code
def yX5_write : MethodName := ⟨RX5, "write", "(I)I"⟩
abbrev cX5_sumOf : ByteArray := prog_7_method_70_code
def yX5_sumOf : MethodName := ⟨RX5, "sumOf", "(I)I"⟩
abbrev cX5_count : ByteArray := prog_7_method_71_code
def yX5_count : MethodName := ⟨RX5, "count", "(I)I"⟩
abbrev cX5_digest : ByteArray := prog_7_method_72_code
def yX5_digest : MethodName := ⟨RX5, "digest", "()J"⟩
def RJx8e188 : String := "java/lang/Cloneable"
def RJ6 : String := "java/lang/Integer"
abbrev cJ6_bitCount_0f7a4 : ByteArray := prog_9_method_49_code
def yJ6_bitCount_0f7a4 : MethodName := ⟨RJ6, "bitCount", "(I)I"⟩
def RJ9 : String := "java/lang/Math"
abbrev cJ9_max_7cf53 : ByteArray := prog_10_method_65_code
def yJ9_max_7cf53 : MethodName := ⟨RJ9, "max", "(II)I"⟩
abbrev cJ9_min_7cf53 : ByteArray := prog_10_method_69_code
def yJ9_min_7cf53 : MethodName := ⟨RJ9, "min", "(II)I"⟩
def RJ10 : String := "java/lang/System"
def RJ7 : String := "java/util/Arrays"
abbrev cJ7_fill_53178 : ByteArray := prog_12_method_103_code
def yJ7_fill_53178 : MethodName := ⟨RJ7, "fill", "([II)V"⟩
def RL : String := "PrickedPagesLaw"
abbrev cL_law : ByteArray := code
def yL_law : MethodName := ⟨RL, "law", "([I)Z"⟩
