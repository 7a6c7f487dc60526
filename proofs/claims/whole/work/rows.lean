section
-- ===== PART A: goes FIRST, ahead of the names: the tables' words, and 'selects' of the private methods out of them =====
/-- a private method of a class that the tables say can be made, by its rows of tables_1 -/
def lw_okq (q : MethodName × Nat) : Prop := (q.1.cls ≠ "java/lang/invoke/MethodHandle" ∧ q.1.cls ≠ "java/lang/invoke/VarHandle") ∧ Cond.instantiable q.1.cls q.2 ∈ tables_1 ∧ Cond.privateMethod q.1 ∈ tables_1 ∧ Cond.instanceMethod q.1 ∈ tables_1
theorem lw_p0 : lw_okq (⟨"PrickedPages", "textAt", "(I)LPrickedPages$Text;"⟩, 14) := ⟨⟨by decide +kernel, by decide +kernel⟩, List.mem_of_getElem? (i := 12) (by decide +kernel), List.mem_of_getElem? (i := 167) (by decide +kernel), List.mem_of_getElem? (i := 168) (by decide +kernel)⟩
theorem lw_p1 : lw_okq (⟨"PrickedPages$Text", "hasRoom", "()Z"⟩, 2) := ⟨⟨by decide +kernel, by decide +kernel⟩, List.mem_of_getElem? (i := 20) (by decide +kernel), List.mem_of_getElem? (i := 174) (by decide +kernel), List.mem_of_getElem? (i := 175) (by decide +kernel)⟩
theorem lw_p2 : lw_okq (⟨"PrickedPages$Text", "append", "(I)V"⟩, 2) := ⟨⟨by decide +kernel, by decide +kernel⟩, List.mem_of_getElem? (i := 20) (by decide +kernel), List.mem_of_getElem? (i := 178) (by decide +kernel), List.mem_of_getElem? (i := 179) (by decide +kernel)⟩
theorem lw_p3 : lw_okq (⟨"PrickedPages", "layTexts", "()V"⟩, 14) := ⟨⟨by decide +kernel, by decide +kernel⟩, List.mem_of_getElem? (i := 12) (by decide +kernel), List.mem_of_getElem? (i := 186) (by decide +kernel), List.mem_of_getElem? (i := 187) (by decide +kernel)⟩
theorem lw_p4 : lw_okq (⟨"PrickedPages$WordList", "split", "()V"⟩, 5) := ⟨⟨by decide +kernel, by decide +kernel⟩, List.mem_of_getElem? (i := 41) (by decide +kernel), List.mem_of_getElem? (i := 190) (by decide +kernel), List.mem_of_getElem? (i := 191) (by decide +kernel)⟩
theorem lw_p5 : lw_okq (⟨"PrickedPages$WordList", "firstFault", "()I"⟩, 5) := ⟨⟨by decide +kernel, by decide +kernel⟩, List.mem_of_getElem? (i := 41) (by decide +kernel), List.mem_of_getElem? (i := 194) (by decide +kernel), List.mem_of_getElem? (i := 195) (by decide +kernel)⟩
theorem lw_p6 : lw_okq (⟨"PrickedPages", "layCells", "()V"⟩, 14) := ⟨⟨by decide +kernel, by decide +kernel⟩, List.mem_of_getElem? (i := 12) (by decide +kernel), List.mem_of_getElem? (i := 206) (by decide +kernel), List.mem_of_getElem? (i := 207) (by decide +kernel)⟩
theorem lw_p7 : lw_okq (⟨"PrickedPages", "pageFault", "()I"⟩, 14) := ⟨⟨by decide +kernel, by decide +kernel⟩, List.mem_of_getElem? (i := 12) (by decide +kernel), List.mem_of_getElem? (i := 210) (by decide +kernel), List.mem_of_getElem? (i := 211) (by decide +kernel)⟩
theorem lw_p8 : lw_okq (⟨"PrickedPages", "printedAt", "(I)I"⟩, 14) := ⟨⟨by decide +kernel, by decide +kernel⟩, List.mem_of_getElem? (i := 12) (by decide +kernel), List.mem_of_getElem? (i := 216) (by decide +kernel), List.mem_of_getElem? (i := 217) (by decide +kernel)⟩
theorem lw_p9 : lw_okq (⟨"PrickedPages$Slips", "pointsAt", "(II)I"⟩, 4) := ⟨⟨by decide +kernel, by decide +kernel⟩, List.mem_of_getElem? (i := 68) (by decide +kernel), List.mem_of_getElem? (i := 220) (by decide +kernel), List.mem_of_getElem? (i := 221) (by decide +kernel)⟩
theorem lw_p10 : lw_okq (⟨"PrickedPages", "sheetAt", "(I)LPrickedPages$Sheet;"⟩, 14) := ⟨⟨by decide +kernel, by decide +kernel⟩, List.mem_of_getElem? (i := 12) (by decide +kernel), List.mem_of_getElem? (i := 245) (by decide +kernel), List.mem_of_getElem? (i := 246) (by decide +kernel)⟩
theorem lw_p11 : lw_okq (⟨"PrickedPages$Sheet", "isLost", "()Z"⟩, 3) := ⟨⟨by decide +kernel, by decide +kernel⟩, List.mem_of_getElem? (i := 101) (by decide +kernel), List.mem_of_getElem? (i := 249) (by decide +kernel), List.mem_of_getElem? (i := 250) (by decide +kernel)⟩
theorem lw_p12 : lw_okq (⟨"PrickedPages", "find", "(I)I"⟩, 14) := ⟨⟨by decide +kernel, by decide +kernel⟩, List.mem_of_getElem? (i := 12) (by decide +kernel), List.mem_of_getElem? (i := 253) (by decide +kernel), List.mem_of_getElem? (i := 254) (by decide +kernel)⟩
theorem lw_p13 : lw_okq (⟨"PrickedPages$Slips", "add", "(III)V"⟩, 4) := ⟨⟨by decide +kernel, by decide +kernel⟩, List.mem_of_getElem? (i := 68) (by decide +kernel), List.mem_of_getElem? (i := 261) (by decide +kernel), List.mem_of_getElem? (i := 262) (by decide +kernel)⟩
theorem lw_p14 : lw_okq (⟨"PrickedPages", "isCell", "(I)Z"⟩, 14) := ⟨⟨by decide +kernel, by decide +kernel⟩, List.mem_of_getElem? (i := 12) (by decide +kernel), List.mem_of_getElem? (i := 282) (by decide +kernel), List.mem_of_getElem? (i := 283) (by decide +kernel)⟩
theorem lw_p15 : lw_okq (⟨"PrickedPages", "readingOf", "(I)I"⟩, 14) := ⟨⟨by decide +kernel, by decide +kernel⟩, List.mem_of_getElem? (i := 12) (by decide +kernel), List.mem_of_getElem? (i := 290) (by decide +kernel), List.mem_of_getElem? (i := 291) (by decide +kernel)⟩
def lw_privs_1 : List (MethodName × Nat) := [(⟨"PrickedPages", "textAt", "(I)LPrickedPages$Text;"⟩, 14), (⟨"PrickedPages$Text", "hasRoom", "()Z"⟩, 2), (⟨"PrickedPages$Text", "append", "(I)V"⟩, 2), (⟨"PrickedPages", "layTexts", "()V"⟩, 14), (⟨"PrickedPages$WordList", "split", "()V"⟩, 5), (⟨"PrickedPages$WordList", "firstFault", "()I"⟩, 5), (⟨"PrickedPages", "layCells", "()V"⟩, 14), (⟨"PrickedPages", "pageFault", "()I"⟩, 14), (⟨"PrickedPages", "printedAt", "(I)I"⟩, 14), (⟨"PrickedPages$Slips", "pointsAt", "(II)I"⟩, 4), (⟨"PrickedPages", "sheetAt", "(I)LPrickedPages$Sheet;"⟩, 14), (⟨"PrickedPages$Sheet", "isLost", "()Z"⟩, 3), (⟨"PrickedPages", "find", "(I)I"⟩, 14), (⟨"PrickedPages$Slips", "add", "(III)V"⟩, 4), (⟨"PrickedPages", "isCell", "(I)Z"⟩, 14), (⟨"PrickedPages", "readingOf", "(I)I"⟩, 14)]
theorem lw_r1 : ∀ q ∈ lw_privs_1, lw_okq q := List.forall_mem_cons.mpr ⟨lw_p0, List.forall_mem_cons.mpr ⟨lw_p1, List.forall_mem_cons.mpr ⟨lw_p2, List.forall_mem_cons.mpr ⟨lw_p3, List.forall_mem_cons.mpr ⟨lw_p4, List.forall_mem_cons.mpr ⟨lw_p5, List.forall_mem_cons.mpr ⟨lw_p6, List.forall_mem_cons.mpr ⟨lw_p7, List.forall_mem_cons.mpr ⟨lw_p8, List.forall_mem_cons.mpr ⟨lw_p9, List.forall_mem_cons.mpr ⟨lw_p10, List.forall_mem_cons.mpr ⟨lw_p11, List.forall_mem_cons.mpr ⟨lw_p12, List.forall_mem_cons.mpr ⟨lw_p13, List.forall_mem_cons.mpr ⟨lw_p14, List.forall_mem_cons.mpr ⟨lw_p15, fun _ h => absurd h List.not_mem_nil⟩⟩⟩⟩⟩⟩⟩⟩⟩⟩⟩⟩⟩⟩⟩⟩
theorem lw_p16 : lw_okq (⟨"PrickedPages$WordList", "has", "(I)Z"⟩, 5) := ⟨⟨by decide +kernel, by decide +kernel⟩, List.mem_of_getElem? (i := 41) (by decide +kernel), List.mem_of_getElem? (i := 313) (by decide +kernel), List.mem_of_getElem? (i := 314) (by decide +kernel)⟩
theorem lw_p17 : lw_okq (⟨"PrickedPages", "wordsBothWays", "()I"⟩, 14) := ⟨⟨by decide +kernel, by decide +kernel⟩, List.mem_of_getElem? (i := 12) (by decide +kernel), List.mem_of_getElem? (i := 318) (by decide +kernel), List.mem_of_getElem? (i := 319) (by decide +kernel)⟩
theorem lw_p18 : lw_okq (⟨"PrickedPages", "wordFromBehind", "(I)I"⟩, 14) := ⟨⟨by decide +kernel, by decide +kernel⟩, List.mem_of_getElem? (i := 12) (by decide +kernel), List.mem_of_getElem? (i := 322) (by decide +kernel), List.mem_of_getElem? (i := 323) (by decide +kernel)⟩
theorem lw_p19 : lw_okq (⟨"PrickedPages", "isReadFromBehindAs", "(II)Z"⟩, 14) := ⟨⟨by decide +kernel, by decide +kernel⟩, List.mem_of_getElem? (i := 12) (by decide +kernel), List.mem_of_getElem? (i := 326) (by decide +kernel), List.mem_of_getElem? (i := 327) (by decide +kernel)⟩
theorem lw_p20 : lw_okq (⟨"PrickedPages$WordList", "lettersOf", "(I)I"⟩, 5) := ⟨⟨by decide +kernel, by decide +kernel⟩, List.mem_of_getElem? (i := 41) (by decide +kernel), List.mem_of_getElem? (i := 330) (by decide +kernel), List.mem_of_getElem? (i := 331) (by decide +kernel)⟩
theorem lw_p21 : lw_okq (⟨"PrickedPages", "signOf", "(II)I"⟩, 14) := ⟨⟨by decide +kernel, by decide +kernel⟩, List.mem_of_getElem? (i := 12) (by decide +kernel), List.mem_of_getElem? (i := 334) (by decide +kernel), List.mem_of_getElem? (i := 335) (by decide +kernel)⟩
theorem lw_p22 : lw_okq (⟨"PrickedPages$WordList", "letterOf", "(II)I"⟩, 5) := ⟨⟨by decide +kernel, by decide +kernel⟩, List.mem_of_getElem? (i := 41) (by decide +kernel), List.mem_of_getElem? (i := 338) (by decide +kernel), List.mem_of_getElem? (i := 339) (by decide +kernel)⟩
theorem lw_p23 : lw_okq (⟨"PrickedPages", "costAt", "(II)I"⟩, 14) := ⟨⟨by decide +kernel, by decide +kernel⟩, List.mem_of_getElem? (i := 12) (by decide +kernel), List.mem_of_getElem? (i := 346) (by decide +kernel), List.mem_of_getElem? (i := 347) (by decide +kernel)⟩
theorem lw_p24 : lw_okq (⟨"PrickedPages", "hasCellsFor", "(II)Z"⟩, 14) := ⟨⟨by decide +kernel, by decide +kernel⟩, List.mem_of_getElem? (i := 12) (by decide +kernel), List.mem_of_getElem? (i := 350) (by decide +kernel), List.mem_of_getElem? (i := 351) (by decide +kernel)⟩
theorem lw_p25 : lw_okq (⟨"PrickedPages", "cheapestAt", "(I)I"⟩, 14) := ⟨⟨by decide +kernel, by decide +kernel⟩, List.mem_of_getElem? (i := 12) (by decide +kernel), List.mem_of_getElem? (i := 364) (by decide +kernel), List.mem_of_getElem? (i := 365) (by decide +kernel)⟩
theorem lw_p26 : lw_okq (⟨"PrickedPages", "bestLine", "()I"⟩, 14) := ⟨⟨by decide +kernel, by decide +kernel⟩, List.mem_of_getElem? (i := 12) (by decide +kernel), List.mem_of_getElem? (i := 376) (by decide +kernel), List.mem_of_getElem? (i := 377) (by decide +kernel)⟩
theorem lw_p27 : lw_okq (⟨"PrickedPages", "bestBehindWord", "(I)I"⟩, 14) := ⟨⟨by decide +kernel, by decide +kernel⟩, List.mem_of_getElem? (i := 12) (by decide +kernel), List.mem_of_getElem? (i := 380) (by decide +kernel), List.mem_of_getElem? (i := 381) (by decide +kernel)⟩
theorem lw_p28 : lw_okq (⟨"PrickedPages", "isApartFromOthers", "(II)Z"⟩, 14) := ⟨⟨by decide +kernel, by decide +kernel⟩, List.mem_of_getElem? (i := 12) (by decide +kernel), List.mem_of_getElem? (i := 398) (by decide +kernel), List.mem_of_getElem? (i := 399) (by decide +kernel)⟩
theorem lw_p29 : lw_okq (⟨"PrickedPages", "freeSigns", "()I"⟩, 14) := ⟨⟨by decide +kernel, by decide +kernel⟩, List.mem_of_getElem? (i := 12) (by decide +kernel), List.mem_of_getElem? (i := 406) (by decide +kernel), List.mem_of_getElem? (i := 407) (by decide +kernel)⟩
theorem lw_p30 : lw_okq (⟨"PrickedPages", "shortened", "(I)I"⟩, 14) := ⟨⟨by decide +kernel, by decide +kernel⟩, List.mem_of_getElem? (i := 12) (by decide +kernel), List.mem_of_getElem? (i := 410) (by decide +kernel), List.mem_of_getElem? (i := 411) (by decide +kernel)⟩
theorem lw_p31 : lw_okq (⟨"PrickedPages", "mostSavingBut", "(I)I"⟩, 14) := ⟨⟨by decide +kernel, by decide +kernel⟩, List.mem_of_getElem? (i := 12) (by decide +kernel), List.mem_of_getElem? (i := 414) (by decide +kernel), List.mem_of_getElem? (i := 415) (by decide +kernel)⟩
def lw_privs_2 : List (MethodName × Nat) := [(⟨"PrickedPages$WordList", "has", "(I)Z"⟩, 5), (⟨"PrickedPages", "wordsBothWays", "()I"⟩, 14), (⟨"PrickedPages", "wordFromBehind", "(I)I"⟩, 14), (⟨"PrickedPages", "isReadFromBehindAs", "(II)Z"⟩, 14), (⟨"PrickedPages$WordList", "lettersOf", "(I)I"⟩, 5), (⟨"PrickedPages", "signOf", "(II)I"⟩, 14), (⟨"PrickedPages$WordList", "letterOf", "(II)I"⟩, 5), (⟨"PrickedPages", "costAt", "(II)I"⟩, 14), (⟨"PrickedPages", "hasCellsFor", "(II)Z"⟩, 14), (⟨"PrickedPages", "cheapestAt", "(I)I"⟩, 14), (⟨"PrickedPages", "bestLine", "()I"⟩, 14), (⟨"PrickedPages", "bestBehindWord", "(I)I"⟩, 14), (⟨"PrickedPages", "isApartFromOthers", "(II)Z"⟩, 14), (⟨"PrickedPages", "freeSigns", "()I"⟩, 14), (⟨"PrickedPages", "shortened", "(I)I"⟩, 14), (⟨"PrickedPages", "mostSavingBut", "(I)I"⟩, 14)]
theorem lw_r2 : ∀ q ∈ lw_privs_2, lw_okq q := List.forall_mem_cons.mpr ⟨lw_p16, List.forall_mem_cons.mpr ⟨lw_p17, List.forall_mem_cons.mpr ⟨lw_p18, List.forall_mem_cons.mpr ⟨lw_p19, List.forall_mem_cons.mpr ⟨lw_p20, List.forall_mem_cons.mpr ⟨lw_p21, List.forall_mem_cons.mpr ⟨lw_p22, List.forall_mem_cons.mpr ⟨lw_p23, List.forall_mem_cons.mpr ⟨lw_p24, List.forall_mem_cons.mpr ⟨lw_p25, List.forall_mem_cons.mpr ⟨lw_p26, List.forall_mem_cons.mpr ⟨lw_p27, List.forall_mem_cons.mpr ⟨lw_p28, List.forall_mem_cons.mpr ⟨lw_p29, List.forall_mem_cons.mpr ⟨lw_p30, List.forall_mem_cons.mpr ⟨lw_p31, fun _ h => absurd h List.not_mem_nil⟩⟩⟩⟩⟩⟩⟩⟩⟩⟩⟩⟩⟩⟩⟩⟩
theorem lw_p32 : lw_okq (⟨"PrickedPages", "savedBy", "(I)I"⟩, 14) := ⟨⟨by decide +kernel, by decide +kernel⟩, List.mem_of_getElem? (i := 12) (by decide +kernel), List.mem_of_getElem? (i := 418) (by decide +kernel), List.mem_of_getElem? (i := 419) (by decide +kernel)⟩
theorem lw_p33 : lw_okq (⟨"PrickedPages", "lieTogether", "(III)Z"⟩, 14) := ⟨⟨by decide +kernel, by decide +kernel⟩, List.mem_of_getElem? (i := 12) (by decide +kernel), List.mem_of_getElem? (i := 426) (by decide +kernel), List.mem_of_getElem? (i := 427) (by decide +kernel)⟩
theorem lw_p34 : lw_okq (⟨"PrickedPages", "firstClash", "(LPrickedPages$Sheet;)I"⟩, 14) := ⟨⟨by decide +kernel, by decide +kernel⟩, List.mem_of_getElem? (i := 12) (by decide +kernel), List.mem_of_getElem? (i := 434) (by decide +kernel), List.mem_of_getElem? (i := 435) (by decide +kernel)⟩
theorem lw_p35 : lw_okq (⟨"PrickedPages", "skippedAt", "(I)I"⟩, 14) := ⟨⟨by decide +kernel, by decide +kernel⟩, List.mem_of_getElem? (i := 12) (by decide +kernel), List.mem_of_getElem? (i := 446) (by decide +kernel), List.mem_of_getElem? (i := 447) (by decide +kernel)⟩
theorem lw_p36 : lw_okq (⟨"PrickedPages", "skippedBy", "(I)I"⟩, 14) := ⟨⟨by decide +kernel, by decide +kernel⟩, List.mem_of_getElem? (i := 12) (by decide +kernel), List.mem_of_getElem? (i := 450) (by decide +kernel), List.mem_of_getElem? (i := 451) (by decide +kernel)⟩
theorem lw_p37 : lw_okq (⟨"PrickedPages", "wearDown", "(I)V"⟩, 14) := ⟨⟨by decide +kernel, by decide +kernel⟩, List.mem_of_getElem? (i := 12) (by decide +kernel), List.mem_of_getElem? (i := 458) (by decide +kernel), List.mem_of_getElem? (i := 459) (by decide +kernel)⟩
theorem lw_p38 : lw_okq (⟨"PrickedPages", "nextRaised", "(I)I"⟩, 14) := ⟨⟨by decide +kernel, by decide +kernel⟩, List.mem_of_getElem? (i := 12) (by decide +kernel), List.mem_of_getElem? (i := 462) (by decide +kernel), List.mem_of_getElem? (i := 463) (by decide +kernel)⟩
theorem lw_p39 : lw_okq (⟨"PrickedPages$Sheet", "renew", "(II)V"⟩, 3) := ⟨⟨by decide +kernel, by decide +kernel⟩, List.mem_of_getElem? (i := 101) (by decide +kernel), List.mem_of_getElem? (i := 479) (by decide +kernel), List.mem_of_getElem? (i := 480) (by decide +kernel)⟩
theorem lw_p40 : lw_okq (⟨"PrickedPages$Sheet", "store", "(II)V"⟩, 3) := ⟨⟨by decide +kernel, by decide +kernel⟩, List.mem_of_getElem? (i := 101) (by decide +kernel), List.mem_of_getElem? (i := 495) (by decide +kernel), List.mem_of_getElem? (i := 496) (by decide +kernel)⟩
theorem lw_p41 : lw_okq (⟨"PrickedPages$Sheet", "hasStretch", "(II)Z"⟩, 3) := ⟨⟨by decide +kernel, by decide +kernel⟩, List.mem_of_getElem? (i := 101) (by decide +kernel), List.mem_of_getElem? (i := 509) (by decide +kernel), List.mem_of_getElem? (i := 510) (by decide +kernel)⟩
theorem lw_p42 : lw_okq (⟨"PrickedPages", "cellsOfLetters", "()I"⟩, 14) := ⟨⟨by decide +kernel, by decide +kernel⟩, List.mem_of_getElem? (i := 12) (by decide +kernel), List.mem_of_getElem? (i := 524) (by decide +kernel), List.mem_of_getElem? (i := 525) (by decide +kernel)⟩
theorem lw_p43 : lw_okq (⟨"PrickedPages", "mixCells", "(J)J"⟩, 14) := ⟨⟨by decide +kernel, by decide +kernel⟩, List.mem_of_getElem? (i := 12) (by decide +kernel), List.mem_of_getElem? (i := 540) (by decide +kernel), List.mem_of_getElem? (i := 541) (by decide +kernel)⟩
theorem lw_p44 : lw_okq (⟨"PrickedPages", "mixWords", "(J)J"⟩, 14) := ⟨⟨by decide +kernel, by decide +kernel⟩, List.mem_of_getElem? (i := 12) (by decide +kernel), List.mem_of_getElem? (i := 549) (by decide +kernel), List.mem_of_getElem? (i := 550) (by decide +kernel)⟩
theorem lw_p45 : lw_okq (⟨"PrickedPagesModel", "faultOf", "(I)I"⟩, 25) := ⟨⟨by decide +kernel, by decide +kernel⟩, List.mem_of_getElem? (i := 562) (by decide +kernel), List.mem_of_getElem? (i := 660) (by decide +kernel), List.mem_of_getElem? (i := 661) (by decide +kernel)⟩
theorem lw_p46 : lw_okq (⟨"PrickedPagesModel", "readsPage", "()I"⟩, 25) := ⟨⟨by decide +kernel, by decide +kernel⟩, List.mem_of_getElem? (i := 562) (by decide +kernel), List.mem_of_getElem? (i := 664) (by decide +kernel), List.mem_of_getElem? (i := 665) (by decide +kernel)⟩
theorem lw_p47 : lw_okq (⟨"PrickedPagesModel", "letterAt", "(II)I"⟩, 25) := ⟨⟨by decide +kernel, by decide +kernel⟩, List.mem_of_getElem? (i := 562) (by decide +kernel), List.mem_of_getElem? (i := 668) (by decide +kernel), List.mem_of_getElem? (i := 669) (by decide +kernel)⟩
def lw_privs_3 : List (MethodName × Nat) := [(⟨"PrickedPages", "savedBy", "(I)I"⟩, 14), (⟨"PrickedPages", "lieTogether", "(III)Z"⟩, 14), (⟨"PrickedPages", "firstClash", "(LPrickedPages$Sheet;)I"⟩, 14), (⟨"PrickedPages", "skippedAt", "(I)I"⟩, 14), (⟨"PrickedPages", "skippedBy", "(I)I"⟩, 14), (⟨"PrickedPages", "wearDown", "(I)V"⟩, 14), (⟨"PrickedPages", "nextRaised", "(I)I"⟩, 14), (⟨"PrickedPages$Sheet", "renew", "(II)V"⟩, 3), (⟨"PrickedPages$Sheet", "store", "(II)V"⟩, 3), (⟨"PrickedPages$Sheet", "hasStretch", "(II)Z"⟩, 3), (⟨"PrickedPages", "cellsOfLetters", "()I"⟩, 14), (⟨"PrickedPages", "mixCells", "(J)J"⟩, 14), (⟨"PrickedPages", "mixWords", "(J)J"⟩, 14), (⟨"PrickedPagesModel", "faultOf", "(I)I"⟩, 25), (⟨"PrickedPagesModel", "readsPage", "()I"⟩, 25), (⟨"PrickedPagesModel", "letterAt", "(II)I"⟩, 25)]
theorem lw_r3 : ∀ q ∈ lw_privs_3, lw_okq q := List.forall_mem_cons.mpr ⟨lw_p32, List.forall_mem_cons.mpr ⟨lw_p33, List.forall_mem_cons.mpr ⟨lw_p34, List.forall_mem_cons.mpr ⟨lw_p35, List.forall_mem_cons.mpr ⟨lw_p36, List.forall_mem_cons.mpr ⟨lw_p37, List.forall_mem_cons.mpr ⟨lw_p38, List.forall_mem_cons.mpr ⟨lw_p39, List.forall_mem_cons.mpr ⟨lw_p40, List.forall_mem_cons.mpr ⟨lw_p41, List.forall_mem_cons.mpr ⟨lw_p42, List.forall_mem_cons.mpr ⟨lw_p43, List.forall_mem_cons.mpr ⟨lw_p44, List.forall_mem_cons.mpr ⟨lw_p45, List.forall_mem_cons.mpr ⟨lw_p46, List.forall_mem_cons.mpr ⟨lw_p47, fun _ h => absurd h List.not_mem_nil⟩⟩⟩⟩⟩⟩⟩⟩⟩⟩⟩⟩⟩⟩⟩⟩
theorem lw_p48 : lw_okq (⟨"PrickedPagesModel", "readsWords", "()I"⟩, 25) := ⟨⟨by decide +kernel, by decide +kernel⟩, List.mem_of_getElem? (i := 562) (by decide +kernel), List.mem_of_getElem? (i := 672) (by decide +kernel), List.mem_of_getElem? (i := 673) (by decide +kernel)⟩
theorem lw_p49 : lw_okq (⟨"PrickedPagesModel", "meets", "(I)I"⟩, 25) := ⟨⟨by decide +kernel, by decide +kernel⟩, List.mem_of_getElem? (i := 562) (by decide +kernel), List.mem_of_getElem? (i := 687) (by decide +kernel), List.mem_of_getElem? (i := 688) (by decide +kernel)⟩
theorem lw_p50 : lw_okq (⟨"PrickedPagesModel", "isCell", "(I)Z"⟩, 25) := ⟨⟨by decide +kernel, by decide +kernel⟩, List.mem_of_getElem? (i := 562) (by decide +kernel), List.mem_of_getElem? (i := 711) (by decide +kernel), List.mem_of_getElem? (i := 712) (by decide +kernel)⟩
theorem lw_p51 : lw_okq (⟨"PrickedPagesModel", "reads", "()V"⟩, 25) := ⟨⟨by decide +kernel, by decide +kernel⟩, List.mem_of_getElem? (i := 562) (by decide +kernel), List.mem_of_getElem? (i := 715) (by decide +kernel), List.mem_of_getElem? (i := 716) (by decide +kernel)⟩
theorem lw_p52 : lw_okq (⟨"PrickedPagesModel", "cellOf", "(I)I"⟩, 25) := ⟨⟨by decide +kernel, by decide +kernel⟩, List.mem_of_getElem? (i := 562) (by decide +kernel), List.mem_of_getElem? (i := 719) (by decide +kernel), List.mem_of_getElem? (i := 720) (by decide +kernel)⟩
theorem lw_p53 : lw_okq (⟨"PrickedPagesModel", "signOf", "(I)I"⟩, 25) := ⟨⟨by decide +kernel, by decide +kernel⟩, List.mem_of_getElem? (i := 562) (by decide +kernel), List.mem_of_getElem? (i := 723) (by decide +kernel), List.mem_of_getElem? (i := 724) (by decide +kernel)⟩
theorem lw_p54 : lw_okq (⟨"PrickedPagesModel", "readAs", "(I)I"⟩, 25) := ⟨⟨by decide +kernel, by decide +kernel⟩, List.mem_of_getElem? (i := 562) (by decide +kernel), List.mem_of_getElem? (i := 731) (by decide +kernel), List.mem_of_getElem? (i := 732) (by decide +kernel)⟩
theorem lw_p55 : lw_okq (⟨"PrickedPagesModel", "judgedNow", "()I"⟩, 25) := ⟨⟨by decide +kernel, by decide +kernel⟩, List.mem_of_getElem? (i := 562) (by decide +kernel), List.mem_of_getElem? (i := 739) (by decide +kernel), List.mem_of_getElem? (i := 740) (by decide +kernel)⟩
theorem lw_p56 : lw_okq (⟨"PrickedPagesModel", "wrongOf", "(I)I"⟩, 25) := ⟨⟨by decide +kernel, by decide +kernel⟩, List.mem_of_getElem? (i := 562) (by decide +kernel), List.mem_of_getElem? (i := 747) (by decide +kernel), List.mem_of_getElem? (i := 748) (by decide +kernel)⟩
theorem lw_p57 : lw_okq (⟨"PrickedPagesModel", "bothAll", "()I"⟩, 25) := ⟨⟨by decide +kernel, by decide +kernel⟩, List.mem_of_getElem? (i := 562) (by decide +kernel), List.mem_of_getElem? (i := 762) (by decide +kernel), List.mem_of_getElem? (i := 763) (by decide +kernel)⟩
theorem lw_p58 : lw_okq (⟨"PrickedPagesModel", "bothOf", "(I)I"⟩, 25) := ⟨⟨by decide +kernel, by decide +kernel⟩, List.mem_of_getElem? (i := 562) (by decide +kernel), List.mem_of_getElem? (i := 766) (by decide +kernel), List.mem_of_getElem? (i := 767) (by decide +kernel)⟩
theorem lw_p59 : lw_okq (⟨"PrickedPagesModel", "isWord", "(I)Z"⟩, 25) := ⟨⟨by decide +kernel, by decide +kernel⟩, List.mem_of_getElem? (i := 562) (by decide +kernel), List.mem_of_getElem? (i := 770) (by decide +kernel), List.mem_of_getElem? (i := 771) (by decide +kernel)⟩
theorem lw_p60 : lw_okq (⟨"PrickedPagesModel", "fitsOf", "(II)I"⟩, 25) := ⟨⟨by decide +kernel, by decide +kernel⟩, List.mem_of_getElem? (i := 562) (by decide +kernel), List.mem_of_getElem? (i := 778) (by decide +kernel), List.mem_of_getElem? (i := 779) (by decide +kernel)⟩
theorem lw_p61 : lw_okq (⟨"PrickedPagesModel", "meantOf", "(II)I"⟩, 25) := ⟨⟨by decide +kernel, by decide +kernel⟩, List.mem_of_getElem? (i := 562) (by decide +kernel), List.mem_of_getElem? (i := 789) (by decide +kernel), List.mem_of_getElem? (i := 790) (by decide +kernel)⟩
theorem lw_p62 : lw_okq (⟨"PrickedPagesModel", "withinOf", "(II)I"⟩, 25) := ⟨⟨by decide +kernel, by decide +kernel⟩, List.mem_of_getElem? (i := 562) (by decide +kernel), List.mem_of_getElem? (i := 797) (by decide +kernel), List.mem_of_getElem? (i := 798) (by decide +kernel)⟩
theorem lw_p63 : lw_okq (⟨"PrickedPagesModel", "lineOf", "(I)I"⟩, 25) := ⟨⟨by decide +kernel, by decide +kernel⟩, List.mem_of_getElem? (i := 562) (by decide +kernel), List.mem_of_getElem? (i := 805) (by decide +kernel), List.mem_of_getElem? (i := 806) (by decide +kernel)⟩
def lw_privs_4 : List (MethodName × Nat) := [(⟨"PrickedPagesModel", "readsWords", "()I"⟩, 25), (⟨"PrickedPagesModel", "meets", "(I)I"⟩, 25), (⟨"PrickedPagesModel", "isCell", "(I)Z"⟩, 25), (⟨"PrickedPagesModel", "reads", "()V"⟩, 25), (⟨"PrickedPagesModel", "cellOf", "(I)I"⟩, 25), (⟨"PrickedPagesModel", "signOf", "(I)I"⟩, 25), (⟨"PrickedPagesModel", "readAs", "(I)I"⟩, 25), (⟨"PrickedPagesModel", "judgedNow", "()I"⟩, 25), (⟨"PrickedPagesModel", "wrongOf", "(I)I"⟩, 25), (⟨"PrickedPagesModel", "bothAll", "()I"⟩, 25), (⟨"PrickedPagesModel", "bothOf", "(I)I"⟩, 25), (⟨"PrickedPagesModel", "isWord", "(I)Z"⟩, 25), (⟨"PrickedPagesModel", "fitsOf", "(II)I"⟩, 25), (⟨"PrickedPagesModel", "meantOf", "(II)I"⟩, 25), (⟨"PrickedPagesModel", "withinOf", "(II)I"⟩, 25), (⟨"PrickedPagesModel", "lineOf", "(I)I"⟩, 25)]
theorem lw_r4 : ∀ q ∈ lw_privs_4, lw_okq q := List.forall_mem_cons.mpr ⟨lw_p48, List.forall_mem_cons.mpr ⟨lw_p49, List.forall_mem_cons.mpr ⟨lw_p50, List.forall_mem_cons.mpr ⟨lw_p51, List.forall_mem_cons.mpr ⟨lw_p52, List.forall_mem_cons.mpr ⟨lw_p53, List.forall_mem_cons.mpr ⟨lw_p54, List.forall_mem_cons.mpr ⟨lw_p55, List.forall_mem_cons.mpr ⟨lw_p56, List.forall_mem_cons.mpr ⟨lw_p57, List.forall_mem_cons.mpr ⟨lw_p58, List.forall_mem_cons.mpr ⟨lw_p59, List.forall_mem_cons.mpr ⟨lw_p60, List.forall_mem_cons.mpr ⟨lw_p61, List.forall_mem_cons.mpr ⟨lw_p62, List.forall_mem_cons.mpr ⟨lw_p63, fun _ h => absurd h List.not_mem_nil⟩⟩⟩⟩⟩⟩⟩⟩⟩⟩⟩⟩⟩⟩⟩⟩
theorem lw_p64 : lw_okq (⟨"PrickedPagesModel", "slipperyNow", "()I"⟩, 25) := ⟨⟨by decide +kernel, by decide +kernel⟩, List.mem_of_getElem? (i := 562) (by decide +kernel), List.mem_of_getElem? (i := 813) (by decide +kernel), List.mem_of_getElem? (i := 814) (by decide +kernel)⟩
theorem lw_p65 : lw_okq (⟨"PrickedPagesModel", "betterOf", "(I)I"⟩, 25) := ⟨⟨by decide +kernel, by decide +kernel⟩, List.mem_of_getElem? (i := 562) (by decide +kernel), List.mem_of_getElem? (i := 824) (by decide +kernel), List.mem_of_getElem? (i := 825) (by decide +kernel)⟩
theorem lw_p66 : lw_okq (⟨"PrickedPagesModel", "shortsOf", "(II)I"⟩, 25) := ⟨⟨by decide +kernel, by decide +kernel⟩, List.mem_of_getElem? (i := 562) (by decide +kernel), List.mem_of_getElem? (i := 832) (by decide +kernel), List.mem_of_getElem? (i := 833) (by decide +kernel)⟩
theorem lw_p67 : lw_okq (⟨"PrickedPagesModel", "freeSigns", "()I"⟩, 25) := ⟨⟨by decide +kernel, by decide +kernel⟩, List.mem_of_getElem? (i := 562) (by decide +kernel), List.mem_of_getElem? (i := 836) (by decide +kernel), List.mem_of_getElem? (i := 837) (by decide +kernel)⟩
theorem lw_p68 : lw_okq (⟨"PrickedPagesModel", "underOf", "(II)I"⟩, 25) := ⟨⟨by decide +kernel, by decide +kernel⟩, List.mem_of_getElem? (i := 562) (by decide +kernel), List.mem_of_getElem? (i := 844) (by decide +kernel), List.mem_of_getElem? (i := 845) (by decide +kernel)⟩
theorem lw_p69 : lw_okq (⟨"PrickedPagesModel", "clashOf", "(I)I"⟩, 25) := ⟨⟨by decide +kernel, by decide +kernel⟩, List.mem_of_getElem? (i := 562) (by decide +kernel), List.mem_of_getElem? (i := 852) (by decide +kernel), List.mem_of_getElem? (i := 853) (by decide +kernel)⟩
theorem lw_p70 : lw_okq (⟨"PrickedPagesModel", "whoseNow", "()I"⟩, 25) := ⟨⟨by decide +kernel, by decide +kernel⟩, List.mem_of_getElem? (i := 562) (by decide +kernel), List.mem_of_getElem? (i := 864) (by decide +kernel), List.mem_of_getElem? (i := 865) (by decide +kernel)⟩
theorem lw_p71 : lw_okq (⟨"PrickedPagesModel", "wearOf", "(II)I"⟩, 25) := ⟨⟨by decide +kernel, by decide +kernel⟩, List.mem_of_getElem? (i := 562) (by decide +kernel), List.mem_of_getElem? (i := 872) (by decide +kernel), List.mem_of_getElem? (i := 873) (by decide +kernel)⟩
theorem lw_p72 : lw_okq (⟨"PrickedPagesModel", "lacks", "(III)I"⟩, 25) := ⟨⟨by decide +kernel, by decide +kernel⟩, List.mem_of_getElem? (i := 562) (by decide +kernel), List.mem_of_getElem? (i := 888) (by decide +kernel), List.mem_of_getElem? (i := 889) (by decide +kernel)⟩
theorem lw_p73 : lw_okq (⟨"PrickedPagesModel", "keep", "(III)V"⟩, 25) := ⟨⟨by decide +kernel, by decide +kernel⟩, List.mem_of_getElem? (i := 562) (by decide +kernel), List.mem_of_getElem? (i := 892) (by decide +kernel), List.mem_of_getElem? (i := 893) (by decide +kernel)⟩
theorem lw_p74 : lw_okq (⟨"PrickedPagesModel", "sumOf", "(I)I"⟩, 25) := ⟨⟨by decide +kernel, by decide +kernel⟩, List.mem_of_getElem? (i := 562) (by decide +kernel), List.mem_of_getElem? (i := 913) (by decide +kernel), List.mem_of_getElem? (i := 914) (by decide +kernel)⟩
def lw_privs_5 : List (MethodName × Nat) := [(⟨"PrickedPagesModel", "slipperyNow", "()I"⟩, 25), (⟨"PrickedPagesModel", "betterOf", "(I)I"⟩, 25), (⟨"PrickedPagesModel", "shortsOf", "(II)I"⟩, 25), (⟨"PrickedPagesModel", "freeSigns", "()I"⟩, 25), (⟨"PrickedPagesModel", "underOf", "(II)I"⟩, 25), (⟨"PrickedPagesModel", "clashOf", "(I)I"⟩, 25), (⟨"PrickedPagesModel", "whoseNow", "()I"⟩, 25), (⟨"PrickedPagesModel", "wearOf", "(II)I"⟩, 25), (⟨"PrickedPagesModel", "lacks", "(III)I"⟩, 25), (⟨"PrickedPagesModel", "keep", "(III)V"⟩, 25), (⟨"PrickedPagesModel", "sumOf", "(I)I"⟩, 25)]
theorem lw_r5 : ∀ q ∈ lw_privs_5, lw_okq q := List.forall_mem_cons.mpr ⟨lw_p64, List.forall_mem_cons.mpr ⟨lw_p65, List.forall_mem_cons.mpr ⟨lw_p66, List.forall_mem_cons.mpr ⟨lw_p67, List.forall_mem_cons.mpr ⟨lw_p68, List.forall_mem_cons.mpr ⟨lw_p69, List.forall_mem_cons.mpr ⟨lw_p70, List.forall_mem_cons.mpr ⟨lw_p71, List.forall_mem_cons.mpr ⟨lw_p72, List.forall_mem_cons.mpr ⟨lw_p73, List.forall_mem_cons.mpr ⟨lw_p74, fun _ h => absurd h List.not_mem_nil⟩⟩⟩⟩⟩⟩⟩⟩⟩⟩⟩
def lw_privs : List (MethodName × Nat) := lw_privs_1 ++ (lw_privs_2 ++ (lw_privs_3 ++ (lw_privs_4 ++ (lw_privs_5))))
def lw_tbl : List Cond := k2_sels lw_privs ++ tables_1
theorem lw_privs_ok : ∀ q ∈ lw_privs, lw_okq q := by
  show ∀ q ∈ lw_privs_1 ++ (lw_privs_2 ++ (lw_privs_3 ++ (lw_privs_4 ++ (lw_privs_5)))), lw_okq q
  exact List.forall_mem_append.mpr ⟨lw_r1, List.forall_mem_append.mpr ⟨lw_r2, List.forall_mem_append.mpr ⟨lw_r3, List.forall_mem_append.mpr ⟨lw_r4, lw_r5⟩⟩⟩⟩
def RX0 : String := "PrickedPages$Sheet"
def TX0 : u_T := fun k => match k with
  | 0 => ("PrickedPages$Sheet", "items", "[I", true)
  | 1 => ("PrickedPages$Sheet", "form", "I", false)
  | _ => ("PrickedPages$Sheet", "size", "I", false)
def tyX0 : Nat → FieldType := fun k => match k with
  | 0 => .array .int
  | 1 => .int
  | _ => .int
abbrev wsX00 : List Cond := u_ws RX0 TX0 3
theorem nmX0 : ∀ a, a < 3 → ∀ b, b < 3 → a ≠ b → (TX0 a).2.1 ≠ (TX0 b).2.1 := by decide +kernel
theorem tyX0_ok : ∀ k, k < 3 → parseFieldDescriptor (TX0 k).2.2.1 = some (tyX0 k) := by decide +kernel
abbrev cX0_init : ByteArray := prog_2_method_1_code
def yX0_init : MethodName := ⟨RX0, "<init>", "()V"⟩
abbrev cX0_isLost : ByteArray := prog_2_method_2_code
def yX0_isLost : MethodName := ⟨RX0, "isLost", "()Z"⟩
abbrev cX0_renew : ByteArray := prog_2_method_3_code
def yX0_renew : MethodName := ⟨RX0, "renew", "(II)V"⟩
abbrev cX0_hasStretch : ByteArray := prog_2_method_4_code
def yX0_hasStretch : MethodName := ⟨RX0, "hasStretch", "(II)Z"⟩
abbrev cX0_store : ByteArray := prog_2_method_5_code
def yX0_store : MethodName := ⟨RX0, "store", "(II)V"⟩
def RX1 : String := "PrickedPages$Slips"
def TX1 : u_T := fun k => match k with
  | 0 => ("PrickedPages$Slips", "places", "[I", true)
  | 1 => ("PrickedPages$Slips", "points", "[I", true)
  | 2 => ("PrickedPages$Slips", "raised", "[I", true)
  | _ => ("PrickedPages$Slips", "many", "I", false)
def tyX1 : Nat → FieldType := fun k => match k with
  | 0 => .array .int
  | 1 => .array .int
  | 2 => .array .int
  | _ => .int
abbrev wsX10 : List Cond := u_ws RX1 TX1 4
theorem nmX1 : ∀ a, a < 4 → ∀ b, b < 4 → a ≠ b → (TX1 a).2.1 ≠ (TX1 b).2.1 := by decide +kernel
theorem tyX1_ok : ∀ k, k < 4 → parseFieldDescriptor (TX1 k).2.2.1 = some (tyX1 k) := by decide +kernel
abbrev cX1_init : ByteArray := prog_3_method_1_code
def yX1_init : MethodName := ⟨RX1, "<init>", "()V"⟩
abbrev cX1_add : ByteArray := prog_3_method_2_code
def yX1_add : MethodName := ⟨RX1, "add", "(III)V"⟩
abbrev cX1_pointsAt : ByteArray := prog_3_method_3_code
def yX1_pointsAt : MethodName := ⟨RX1, "pointsAt", "(II)I"⟩
def RX2 : String := "PrickedPages$Text"
def TX2 : u_T := fun k => match k with
  | 0 => ("PrickedPages$Text", "bytes", "[I", true)
  | _ => ("PrickedPages$Text", "length", "I", false)
def tyX2 : Nat → FieldType := fun k => match k with
  | 0 => .array .int
  | _ => .int
abbrev wsX20 : List Cond := u_ws RX2 TX2 2
theorem nmX2 : ∀ a, a < 2 → ∀ b, b < 2 → a ≠ b → (TX2 a).2.1 ≠ (TX2 b).2.1 := by decide +kernel
theorem tyX2_ok : ∀ k, k < 2 → parseFieldDescriptor (TX2 k).2.2.1 = some (tyX2 k) := by decide +kernel
abbrev cX2_init : ByteArray := prog_4_method_1_code
def yX2_init : MethodName := ⟨RX2, "<init>", "(I)V"⟩
abbrev cX2_hasRoom : ByteArray := prog_4_method_2_code
def yX2_hasRoom : MethodName := ⟨RX2, "hasRoom", "()Z"⟩
abbrev cX2_append : ByteArray := prog_4_method_3_code
def yX2_append : MethodName := ⟨RX2, "append", "(I)V"⟩
def RX3 : String := "PrickedPages$WordList"
def TX3 : u_T := fun k => match k with
  | 0 => ("PrickedPages$WordList", "text", "LPrickedPages$Text;", true)
  | 1 => ("PrickedPages$WordList", "letters", "[I", true)
  | 2 => ("PrickedPages$WordList", "lengths", "[I", true)
  | 3 => ("PrickedPages$WordList", "many", "I", false)
  | _ => ("PrickedPages$WordList", "faultPlace", "I", false)
def tyX3 : Nat → FieldType := fun k => match k with
  | 0 => .object "PrickedPages$Text"
  | 1 => .array .int
  | 2 => .array .int
  | 3 => .int
  | _ => .int
abbrev wsX30 : List Cond := u_ws RX3 TX3 5
theorem nmX3 : ∀ a, a < 5 → ∀ b, b < 5 → a ≠ b → (TX3 a).2.1 ≠ (TX3 b).2.1 := by decide +kernel
theorem tyX3_ok : ∀ k, k < 5 → parseFieldDescriptor (TX3 k).2.2.1 = some (tyX3 k) := by decide +kernel
abbrev cX3_init : ByteArray := prog_5_method_1_code
def yX3_init : MethodName := ⟨RX3, "<init>", "()V"⟩
abbrev cX3_has : ByteArray := prog_5_method_2_code
def yX3_has : MethodName := ⟨RX3, "has", "(I)Z"⟩
abbrev cX3_lettersOf : ByteArray := prog_5_method_3_code
def yX3_lettersOf : MethodName := ⟨RX3, "lettersOf", "(I)I"⟩
abbrev cX3_letterOf : ByteArray := prog_5_method_4_code
def yX3_letterOf : MethodName := ⟨RX3, "letterOf", "(II)I"⟩
abbrev cX3_split : ByteArray := prog_5_method_5_code
def yX3_split : MethodName := ⟨RX3, "split", "()V"⟩
abbrev cX3_firstFault : ByteArray := prog_5_method_6_code
def yX3_firstFault : MethodName := ⟨RX3, "firstFault", "()I"⟩
def RX4 : String := "PrickedPages"
def TX4 : u_T := fun k => match k with
  | 0 => ("PrickedPages", "page", "LPrickedPages$Text;", true)
  | 1 => ("PrickedPages", "list", "LPrickedPages$WordList;", true)
  | 2 => ("PrickedPages", "slips", "LPrickedPages$Slips;", true)
  | 3 => ("PrickedPages", "signs", "[I", true)
  | 4 => ("PrickedPages", "cells", "[I", true)
  | 5 => ("PrickedPages", "cellCount", "I", false)
  | 6 => ("PrickedPages", "missCost", "I", false)
  | 7 => ("PrickedPages", "extraCost", "I", false)
  | 8 => ("PrickedPages", "comes", "[I", true)
  | 9 => ("PrickedPages", "habits", "[I", true)
  | 10 => ("PrickedPages", "sheets", "[LPrickedPages$Sheet;", true)
  | 11 => ("PrickedPages", "latestFinding", "I", false)
  | 12 => ("PrickedPages", "worn", "[I", true)
  | _ => ("PrickedPages", "bestFrom", "[I", true)
def tyX4 : Nat → FieldType := fun k => match k with
  | 0 => .object "PrickedPages$Text"
  | 1 => .object "PrickedPages$WordList"
  | 2 => .object "PrickedPages$Slips"
  | 3 => .array .int
  | 4 => .array .int
  | 5 => .int
  | 6 => .int
  | 7 => .int
  | 8 => .array .int
  | 9 => .array .int
  | 10 => .array (.object "PrickedPages$Sheet")
  | 11 => .int
  | 12 => .array .int
  | _ => .array .int
abbrev wsX40 : List Cond := u_ws RX4 TX4 14
theorem nmX4 : ∀ a, a < 14 → ∀ b, b < 14 → a ≠ b → (TX4 a).2.1 ≠ (TX4 b).2.1 := by decide +kernel
theorem tyX4_ok : ∀ k, k < 14 → parseFieldDescriptor (TX4 k).2.2.1 = some (tyX4 k) := by decide +kernel
abbrev cX4_init : ByteArray := prog_1_method_1_code
def yX4_init : MethodName := ⟨RX4, "<init>", "()V"⟩
abbrev cX4_type : ByteArray := prog_1_method_2_code
def yX4_type : MethodName := ⟨RX4, "type", "(II)I"⟩
abbrev cX4_wipe : ByteArray := prog_1_method_3_code
def yX4_wipe : MethodName := ⟨RX4, "wipe", "(I)I"⟩
abbrev cX4_fault : ByteArray := prog_1_method_4_code
def yX4_fault : MethodName := ⟨RX4, "fault", "(I)I"⟩
abbrev cX4_sign : ByteArray := prog_1_method_5_code
def yX4_sign : MethodName := ⟨RX4, "sign", "(II)I"⟩
abbrev cX4_read : ByteArray := prog_1_method_6_code
def yX4_read : MethodName := ⟨RX4, "read", "(I)I"⟩
abbrev cX4_slip : ByteArray := prog_1_method_7_code
def yX4_slip : MethodName := ⟨RX4, "slip", "(III)I"⟩
abbrev cX4_undo : ByteArray := prog_1_method_8_code
def yX4_undo : MethodName := ⟨RX4, "undo", "()I"⟩
abbrev cX4_set : ByteArray := prog_1_method_9_code
def yX4_set : MethodName := ⟨RX4, "set", "(II)I"⟩
abbrev cX4_often : ByteArray := prog_1_method_10_code
def yX4_often : MethodName := ⟨RX4, "often", "(II)I"⟩
abbrev cX4_cell : ByteArray := prog_1_method_11_code
def yX4_cell : MethodName := ⟨RX4, "cell", "(I)I"⟩
abbrev cX4_letter : ByteArray := prog_1_method_12_code
def yX4_letter : MethodName := ⟨RX4, "letter", "(I)I"⟩
abbrev cX4_judged : ByteArray := prog_1_method_13_code
def yX4_judged : MethodName := ⟨RX4, "judged", "()I"⟩
abbrev cX4_wrong : ByteArray := prog_1_method_14_code
def yX4_wrong : MethodName := ⟨RX4, "wrong", "(I)I"⟩
abbrev cX4_mirrored : ByteArray := prog_1_method_15_code
def yX4_mirrored : MethodName := ⟨RX4, "mirrored", "(I)I"⟩
abbrev cX4_both : ByteArray := prog_1_method_16_code
def yX4_both : MethodName := ⟨RX4, "both", "(I)I"⟩
abbrev cX4_fits : ByteArray := prog_1_method_17_code
def yX4_fits : MethodName := ⟨RX4, "fits", "(II)I"⟩
abbrev cX4_meant : ByteArray := prog_1_method_18_code
def yX4_meant : MethodName := ⟨RX4, "meant", "(II)I"⟩
abbrev cX4_within : ByteArray := prog_1_method_19_code
def yX4_within : MethodName := ⟨RX4, "within", "(II)I"⟩
abbrev cX4_line : ByteArray := prog_1_method_20_code
def yX4_line : MethodName := ⟨RX4, "line", "(I)I"⟩
abbrev cX4_slippery : ByteArray := prog_1_method_21_code
def yX4_slippery : MethodName := ⟨RX4, "slippery", "()I"⟩
abbrev cX4_better : ByteArray := prog_1_method_22_code
def yX4_better : MethodName := ⟨RX4, "better", "(I)I"⟩
abbrev cX4_shorts : ByteArray := prog_1_method_23_code
def yX4_shorts : MethodName := ⟨RX4, "shorts", "(II)I"⟩
abbrev cX4_under : ByteArray := prog_1_method_24_code
def yX4_under : MethodName := ⟨RX4, "under", "(II)I"⟩
abbrev cX4_clash : ByteArray := prog_1_method_25_code
def yX4_clash : MethodName := ⟨RX4, "clash", "(I)I"⟩
abbrev cX4_hand : ByteArray := prog_1_method_26_code
def yX4_hand : MethodName := ⟨RX4, "hand", "(III)I"⟩
abbrev cX4_whose : ByteArray := prog_1_method_27_code
def yX4_whose : MethodName := ⟨RX4, "whose", "()I"⟩
abbrev cX4_wear : ByteArray := prog_1_method_28_code
def yX4_wear : MethodName := ⟨RX4, "wear", "(II)I"⟩
abbrev cX4_sheet : ByteArray := prog_1_method_29_code
def yX4_sheet : MethodName := ⟨RX4, "sheet", "(III)I"⟩
abbrev cX4_lose : ByteArray := prog_1_method_30_code
def yX4_lose : MethodName := ⟨RX4, "lose", "(I)I"⟩
abbrev cX4_put : ByteArray := prog_1_method_31_code
def yX4_put : MethodName := ⟨RX4, "put", "(IIII)I"⟩
abbrev cX4_get : ByteArray := prog_1_method_32_code
def yX4_get : MethodName := ⟨RX4, "get", "(III)I"⟩
abbrev cX4_copy : ByteArray := prog_1_method_33_code
def yX4_copy : MethodName := ⟨RX4, "copy", "(IIIII)I"⟩
abbrev cX4_write : ByteArray := prog_1_method_34_code
def yX4_write : MethodName := ⟨RX4, "write", "(I)I"⟩
abbrev cX4_count : ByteArray := prog_1_method_35_code
def yX4_count : MethodName := ⟨RX4, "count", "(I)I"⟩
abbrev cX4_digest : ByteArray := prog_1_method_36_code
def yX4_digest : MethodName := ⟨RX4, "digest", "()J"⟩
abbrev cX4_mixCells : ByteArray := prog_1_method_37_code
def yX4_mixCells : MethodName := ⟨RX4, "mixCells", "(J)J"⟩
abbrev cX4_mixWords : ByteArray := prog_1_method_38_code
def yX4_mixWords : MethodName := ⟨RX4, "mixWords", "(J)J"⟩
abbrev cX4_mix : ByteArray := prog_1_method_39_code
def yX4_mix : MethodName := ⟨RX4, "mix", "(JJ)J"⟩
abbrev cX4_at : ByteArray := prog_1_method_40_code
def yX4_at : MethodName := ⟨RX4, "at", "([II)I"⟩
abbrev cX4_lay : ByteArray := prog_1_method_41_code
def yX4_lay : MethodName := ⟨RX4, "lay", "([III)V"⟩
abbrev cX4_isWithin : ByteArray := prog_1_method_42_code
def yX4_isWithin : MethodName := ⟨RX4, "isWithin", "(III)Z"⟩
abbrev cX4_isSign : ByteArray := prog_1_method_43_code
def yX4_isSign : MethodName := ⟨RX4, "isSign", "(I)Z"⟩
abbrev cX4_isForm : ByteArray := prog_1_method_44_code
def yX4_isForm : MethodName := ⟨RX4, "isForm", "(I)Z"⟩
abbrev cX4_isCell : ByteArray := prog_1_method_45_code
def yX4_isCell : MethodName := ⟨RX4, "isCell", "(I)Z"⟩
abbrev cX4_pointsOf : ByteArray := prog_1_method_46_code
def yX4_pointsOf : MethodName := ⟨RX4, "pointsOf", "([II)I"⟩
abbrev cX4_textAt : ByteArray := prog_1_method_47_code
def yX4_textAt : MethodName := ⟨RX4, "textAt", "(I)LPrickedPages$Text;"⟩
abbrev cX4_pageFault : ByteArray := prog_1_method_48_code
def yX4_pageFault : MethodName := ⟨RX4, "pageFault", "()I"⟩
abbrev cX4_isLetter : ByteArray := prog_1_method_49_code
def yX4_isLetter : MethodName := ⟨RX4, "isLetter", "(I)Z"⟩
abbrev cX4_layTexts : ByteArray := prog_1_method_50_code
def yX4_layTexts : MethodName := ⟨RX4, "layTexts", "()V"⟩
abbrev cX4_layCells : ByteArray := prog_1_method_51_code
def yX4_layCells : MethodName := ⟨RX4, "layCells", "()V"⟩
abbrev cX4_printedAt : ByteArray := prog_1_method_52_code
def yX4_printedAt : MethodName := ⟨RX4, "printedAt", "(I)I"⟩
abbrev cX4_readingOf : ByteArray := prog_1_method_53_code
def yX4_readingOf : MethodName := ⟨RX4, "readingOf", "(I)I"⟩
abbrev cX4_swapColumns : ByteArray := prog_1_method_54_code
def yX4_swapColumns : MethodName := ⟨RX4, "swapColumns", "(I)I"⟩
abbrev cX4_cellsOfLetters : ByteArray := prog_1_method_55_code
def yX4_cellsOfLetters : MethodName := ⟨RX4, "cellsOfLetters", "()I"⟩
abbrev cX4_signOf : ByteArray := prog_1_method_56_code
def yX4_signOf : MethodName := ⟨RX4, "signOf", "(II)I"⟩
abbrev cX4_wordsBothWays : ByteArray := prog_1_method_57_code
def yX4_wordsBothWays : MethodName := ⟨RX4, "wordsBothWays", "()I"⟩
abbrev cX4_wordFromBehind : ByteArray := prog_1_method_58_code
def yX4_wordFromBehind : MethodName := ⟨RX4, "wordFromBehind", "(I)I"⟩
abbrev cX4_isReadFromBehindAs : ByteArray := prog_1_method_59_code
def yX4_isReadFromBehindAs : MethodName := ⟨RX4, "isReadFromBehindAs", "(II)Z"⟩
abbrev cX4_hasCellsFor : ByteArray := prog_1_method_60_code
def yX4_hasCellsFor : MethodName := ⟨RX4, "hasCellsFor", "(II)Z"⟩
abbrev cX4_costAt : ByteArray := prog_1_method_61_code
def yX4_costAt : MethodName := ⟨RX4, "costAt", "(II)I"⟩
abbrev cX4_cheapestAt : ByteArray := prog_1_method_62_code
def yX4_cheapestAt : MethodName := ⟨RX4, "cheapestAt", "(I)I"⟩
abbrev cX4_bestLine : ByteArray := prog_1_method_63_code
def yX4_bestLine : MethodName := ⟨RX4, "bestLine", "()I"⟩
abbrev cX4_bestBehindWord : ByteArray := prog_1_method_64_code
def yX4_bestBehindWord : MethodName := ⟨RX4, "bestBehindWord", "(I)I"⟩
abbrev cX4_isOnePointLess : ByteArray := prog_1_method_65_code
def yX4_isOnePointLess : MethodName := ⟨RX4, "isOnePointLess", "(II)Z"⟩
abbrev cX4_isApartFromOthers : ByteArray := prog_1_method_66_code
def yX4_isApartFromOthers : MethodName := ⟨RX4, "isApartFromOthers", "(II)Z"⟩
abbrev cX4_freeSigns : ByteArray := prog_1_method_67_code
def yX4_freeSigns : MethodName := ⟨RX4, "freeSigns", "()I"⟩
abbrev cX4_shortened : ByteArray := prog_1_method_68_code
def yX4_shortened : MethodName := ⟨RX4, "shortened", "(I)I"⟩
abbrev cX4_mostSavingBut : ByteArray := prog_1_method_69_code
def yX4_mostSavingBut : MethodName := ⟨RX4, "mostSavingBut", "(I)I"⟩
abbrev cX4_savedBy : ByteArray := prog_1_method_70_code
def yX4_savedBy : MethodName := ⟨RX4, "savedBy", "(I)I"⟩
abbrev cX4_lieTogether : ByteArray := prog_1_method_71_code
def yX4_lieTogether : MethodName := ⟨RX4, "lieTogether", "(III)Z"⟩
abbrev cX4_firstClash : ByteArray := prog_1_method_72_code
def yX4_firstClash : MethodName := ⟨RX4, "firstClash", "(LPrickedPages$Sheet;)I"⟩
abbrev cX4_skippedAt : ByteArray := prog_1_method_73_code
def yX4_skippedAt : MethodName := ⟨RX4, "skippedAt", "(I)I"⟩
abbrev cX4_skippedBy : ByteArray := prog_1_method_74_code
def yX4_skippedBy : MethodName := ⟨RX4, "skippedBy", "(I)I"⟩
abbrev cX4_wearDown : ByteArray := prog_1_method_75_code
def yX4_wearDown : MethodName := ⟨RX4, "wearDown", "(I)V"⟩
abbrev cX4_nextRaised : ByteArray := prog_1_method_76_code
def yX4_nextRaised : MethodName := ⟨RX4, "nextRaised", "(I)I"⟩
abbrev cX4_withoutGreatestPoint : ByteArray := prog_1_method_77_code
def yX4_withoutGreatestPoint : MethodName := ⟨RX4, "withoutGreatestPoint", "(I)I"⟩
abbrev cX4_sheetAt : ByteArray := prog_1_method_78_code
def yX4_sheetAt : MethodName := ⟨RX4, "sheetAt", "(I)LPrickedPages$Sheet;"⟩
abbrev cX4_find : ByteArray := prog_1_method_79_code
def yX4_find : MethodName := ⟨RX4, "find", "(I)I"⟩
abbrev cX4_itemFinding : ByteArray := prog_1_method_80_code
def yX4_itemFinding : MethodName := ⟨RX4, "itemFinding", "(LPrickedPages$Sheet;II)I"⟩
def RX5 : String := "PrickedPagesModel"
def TX5 : u_T := fun k => match k with
  | 0 => ("PrickedPagesModel", "signs", "[I", true)
  | 1 => ("PrickedPagesModel", "typed", "[I", true)
  | 2 => ("PrickedPagesModel", "texts", "[I", true)
  | 3 => ("PrickedPagesModel", "cells", "I", false)
  | 4 => ("PrickedPagesModel", "page", "[I", true)
  | 5 => ("PrickedPagesModel", "words", "I", false)
  | 6 => ("PrickedPagesModel", "letters", "[I", true)
  | 7 => ("PrickedPagesModel", "lengths", "[I", true)
  | 8 => ("PrickedPagesModel", "miss", "I", false)
  | 9 => ("PrickedPagesModel", "extra", "I", false)
  | 10 => ("PrickedPagesModel", "oftens", "[I", true)
  | 11 => ("PrickedPagesModel", "slips", "I", false)
  | 12 => ("PrickedPagesModel", "slipCell", "[I", true)
  | 13 => ("PrickedPagesModel", "slipPoint", "[I", true)
  | 14 => ("PrickedPagesModel", "slipIs", "[I", true)
  | 15 => ("PrickedPagesModel", "free", "[I", true)
  | 16 => ("PrickedPagesModel", "bound", "[I", true)
  | 17 => ("PrickedPagesModel", "hands", "[I", true)
  | 18 => ("PrickedPagesModel", "worn", "[I", true)
  | 19 => ("PrickedPagesModel", "isThere", "[Z", true)
  | 20 => ("PrickedPagesModel", "forms", "[I", true)
  | 21 => ("PrickedPagesModel", "sizes", "[I", true)
  | 22 => ("PrickedPagesModel", "items", "[I", true)
  | 23 => ("PrickedPagesModel", "moved", "[I", true)
  | _ => ("PrickedPagesModel", "finding", "I", false)
def tyX5 : Nat → FieldType := fun k => match k with
  | 0 => .array .int
  | 1 => .array .int
  | 2 => .array .int
  | 3 => .int
  | 4 => .array .int
  | 5 => .int
  | 6 => .array .int
  | 7 => .array .int
  | 8 => .int
  | 9 => .int
  | 10 => .array .int
  | 11 => .int
  | 12 => .array .int
  | 13 => .array .int
  | 14 => .array .int
  | 15 => .array .int
  | 16 => .array .int
  | 17 => .array .int
  | 18 => .array .int
  | 19 => .array .boolean
  | 20 => .array .int
  | 21 => .array .int
  | 22 => .array .int
  | 23 => .array .int
  | _ => .int
abbrev wsX50 : List Cond := u_ws RX5 TX5 25
theorem nmX5 : ∀ a, a < 25 → ∀ b, b < 25 → a ≠ b → (TX5 a).2.1 ≠ (TX5 b).2.1 := by decide +kernel
theorem tyX5_ok : ∀ k, k < 25 → parseFieldDescriptor (TX5 k).2.2.1 = some (tyX5 k) := by decide +kernel
abbrev cX5_init : ByteArray := prog_7_method_1_code
def yX5_init : MethodName := ⟨RX5, "<init>", "()V"⟩
abbrev cX5_in : ByteArray := prog_7_method_3_code
def yX5_in : MethodName := ⟨RX5, "in", "(III)Z"⟩
abbrev cX5_ones : ByteArray := prog_7_method_4_code
def yX5_ones : MethodName := ⟨RX5, "ones", "(I)I"⟩
abbrev cX5_type : ByteArray := prog_7_method_5_code
def yX5_type : MethodName := ⟨RX5, "type", "(II)I"⟩
abbrev cX5_wipe : ByteArray := prog_7_method_6_code
def yX5_wipe : MethodName := ⟨RX5, "wipe", "(I)I"⟩
abbrev cX5_letterAt : ByteArray := prog_7_method_7_code
def yX5_letterAt : MethodName := ⟨RX5, "letterAt", "(II)I"⟩
abbrev cX5_readsPage : ByteArray := prog_7_method_8_code
def yX5_readsPage : MethodName := ⟨RX5, "readsPage", "()I"⟩
abbrev cX5_readsWords : ByteArray := prog_7_method_9_code
def yX5_readsWords : MethodName := ⟨RX5, "readsWords", "()I"⟩
abbrev cX5_faultOf : ByteArray := prog_7_method_10_code
def yX5_faultOf : MethodName := ⟨RX5, "faultOf", "(I)I"⟩
abbrev cX5_reads : ByteArray := prog_7_method_11_code
def yX5_reads : MethodName := ⟨RX5, "reads", "()V"⟩
abbrev cX5_fault : ByteArray := prog_7_method_12_code
def yX5_fault : MethodName := ⟨RX5, "fault", "(I)I"⟩
abbrev cX5_isCell : ByteArray := prog_7_method_13_code
def yX5_isCell : MethodName := ⟨RX5, "isCell", "(I)Z"⟩
abbrev cX5_isWord : ByteArray := prog_7_method_14_code
def yX5_isWord : MethodName := ⟨RX5, "isWord", "(I)Z"⟩
abbrev cX5_sign : ByteArray := prog_7_method_15_code
def yX5_sign : MethodName := ⟨RX5, "sign", "(II)I"⟩
abbrev cX5_read : ByteArray := prog_7_method_16_code
def yX5_read : MethodName := ⟨RX5, "read", "(I)I"⟩
abbrev cX5_slip : ByteArray := prog_7_method_17_code
def yX5_slip : MethodName := ⟨RX5, "slip", "(III)I"⟩
abbrev cX5_undo : ByteArray := prog_7_method_18_code
def yX5_undo : MethodName := ⟨RX5, "undo", "()I"⟩
abbrev cX5_set : ByteArray := prog_7_method_19_code
def yX5_set : MethodName := ⟨RX5, "set", "(II)I"⟩
abbrev cX5_often : ByteArray := prog_7_method_20_code
def yX5_often : MethodName := ⟨RX5, "often", "(II)I"⟩
abbrev cX5_signOf : ByteArray := prog_7_method_21_code
def yX5_signOf : MethodName := ⟨RX5, "signOf", "(I)I"⟩
abbrev cX5_cellOf : ByteArray := prog_7_method_22_code
def yX5_cellOf : MethodName := ⟨RX5, "cellOf", "(I)I"⟩
abbrev cX5_cell : ByteArray := prog_7_method_23_code
def yX5_cell : MethodName := ⟨RX5, "cell", "(I)I"⟩
abbrev cX5_readAs : ByteArray := prog_7_method_24_code
def yX5_readAs : MethodName := ⟨RX5, "readAs", "(I)I"⟩
abbrev cX5_letter : ByteArray := prog_7_method_25_code
def yX5_letter : MethodName := ⟨RX5, "letter", "(I)I"⟩
abbrev cX5_judgedNow : ByteArray := prog_7_method_26_code
def yX5_judgedNow : MethodName := ⟨RX5, "judgedNow", "()I"⟩
abbrev cX5_judged : ByteArray := prog_7_method_27_code
def yX5_judged : MethodName := ⟨RX5, "judged", "()I"⟩
abbrev cX5_turned : ByteArray := prog_7_method_28_code
def yX5_turned : MethodName := ⟨RX5, "turned", "(I)I"⟩
abbrev cX5_wrongOf : ByteArray := prog_7_method_29_code
def yX5_wrongOf : MethodName := ⟨RX5, "wrongOf", "(I)I"⟩
abbrev cX5_wrong : ByteArray := prog_7_method_30_code
def yX5_wrong : MethodName := ⟨RX5, "wrong", "(I)I"⟩
abbrev cX5_mirrored : ByteArray := prog_7_method_31_code
def yX5_mirrored : MethodName := ⟨RX5, "mirrored", "(I)I"⟩
abbrev cX5_bothOf : ByteArray := prog_7_method_32_code
def yX5_bothOf : MethodName := ⟨RX5, "bothOf", "(I)I"⟩
abbrev cX5_bothAll : ByteArray := prog_7_method_33_code
def yX5_bothAll : MethodName := ⟨RX5, "bothAll", "()I"⟩
abbrev cX5_both : ByteArray := prog_7_method_34_code
def yX5_both : MethodName := ⟨RX5, "both", "(I)I"⟩
abbrev cX5_fitsOf : ByteArray := prog_7_method_35_code
def yX5_fitsOf : MethodName := ⟨RX5, "fitsOf", "(II)I"⟩
abbrev cX5_fits : ByteArray := prog_7_method_36_code
def yX5_fits : MethodName := ⟨RX5, "fits", "(II)I"⟩
abbrev cX5_meantOf : ByteArray := prog_7_method_37_code
def yX5_meantOf : MethodName := ⟨RX5, "meantOf", "(II)I"⟩
abbrev cX5_meant : ByteArray := prog_7_method_38_code
def yX5_meant : MethodName := ⟨RX5, "meant", "(II)I"⟩
abbrev cX5_withinOf : ByteArray := prog_7_method_39_code
def yX5_withinOf : MethodName := ⟨RX5, "withinOf", "(II)I"⟩
abbrev cX5_within : ByteArray := prog_7_method_40_code
def yX5_within : MethodName := ⟨RX5, "within", "(II)I"⟩
abbrev cX5_lineOf : ByteArray := prog_7_method_41_code
def yX5_lineOf : MethodName := ⟨RX5, "lineOf", "(I)I"⟩
abbrev cX5_line : ByteArray := prog_7_method_42_code
def yX5_line : MethodName := ⟨RX5, "line", "(I)I"⟩
abbrev cX5_isLess : ByteArray := prog_7_method_43_code
def yX5_isLess : MethodName := ⟨RX5, "isLess", "(II)Z"⟩
abbrev cX5_slipperyNow : ByteArray := prog_7_method_44_code
def yX5_slipperyNow : MethodName := ⟨RX5, "slipperyNow", "()I"⟩
abbrev cX5_slippery : ByteArray := prog_7_method_45_code
def yX5_slippery : MethodName := ⟨RX5, "slippery", "()I"⟩
abbrev cX5_betterOf : ByteArray := prog_7_method_46_code
def yX5_betterOf : MethodName := ⟨RX5, "betterOf", "(I)I"⟩
abbrev cX5_better : ByteArray := prog_7_method_47_code
def yX5_better : MethodName := ⟨RX5, "better", "(I)I"⟩
abbrev cX5_freeSigns : ByteArray := prog_7_method_48_code
def yX5_freeSigns : MethodName := ⟨RX5, "freeSigns", "()I"⟩
abbrev cX5_shortsOf : ByteArray := prog_7_method_49_code
def yX5_shortsOf : MethodName := ⟨RX5, "shortsOf", "(II)I"⟩
abbrev cX5_shorts : ByteArray := prog_7_method_50_code
def yX5_shorts : MethodName := ⟨RX5, "shorts", "(II)I"⟩
abbrev cX5_underOf : ByteArray := prog_7_method_51_code
def yX5_underOf : MethodName := ⟨RX5, "underOf", "(II)I"⟩
abbrev cX5_under : ByteArray := prog_7_method_52_code
def yX5_under : MethodName := ⟨RX5, "under", "(II)I"⟩
abbrev cX5_clashOf : ByteArray := prog_7_method_53_code
def yX5_clashOf : MethodName := ⟨RX5, "clashOf", "(I)I"⟩
abbrev cX5_clash : ByteArray := prog_7_method_54_code
def yX5_clash : MethodName := ⟨RX5, "clash", "(I)I"⟩
abbrev cX5_hand : ByteArray := prog_7_method_55_code
def yX5_hand : MethodName := ⟨RX5, "hand", "(III)I"⟩
abbrev cX5_whoseNow : ByteArray := prog_7_method_56_code
def yX5_whoseNow : MethodName := ⟨RX5, "whoseNow", "()I"⟩
abbrev cX5_whose : ByteArray := prog_7_method_57_code
def yX5_whose : MethodName := ⟨RX5, "whose", "()I"⟩
abbrev cX5_wearOf : ByteArray := prog_7_method_58_code
def yX5_wearOf : MethodName := ⟨RX5, "wearOf", "(II)I"⟩
abbrev cX5_wear : ByteArray := prog_7_method_59_code
def yX5_wear : MethodName := ⟨RX5, "wear", "(II)I"⟩
abbrev cX5_meets : ByteArray := prog_7_method_60_code
def yX5_meets : MethodName := ⟨RX5, "meets", "(I)I"⟩
abbrev cX5_isSheet : ByteArray := prog_7_method_61_code
def yX5_isSheet : MethodName := ⟨RX5, "isSheet", "(I)Z"⟩
abbrev cX5_sheet : ByteArray := prog_7_method_62_code
def yX5_sheet : MethodName := ⟨RX5, "sheet", "(III)I"⟩
abbrev cX5_lose : ByteArray := prog_7_method_63_code
def yX5_lose : MethodName := ⟨RX5, "lose", "(I)I"⟩
abbrev cX5_lacks : ByteArray := prog_7_method_64_code
def yX5_lacks : MethodName := ⟨RX5, "lacks", "(III)I"⟩
abbrev cX5_keep : ByteArray := prog_7_method_65_code
def yX5_keep : MethodName := ⟨RX5, "keep", "(III)V"⟩
abbrev cX5_put : ByteArray := prog_7_method_66_code
def yX5_put : MethodName := ⟨RX5, "put", "(IIII)I"⟩
abbrev cX5_get : ByteArray := prog_7_method_67_code
def yX5_get : MethodName := ⟨RX5, "get", "(III)I"⟩
abbrev cX5_copy : ByteArray := prog_7_method_68_code
def yX5_copy : MethodName := ⟨RX5, "copy", "(IIIII)I"⟩
abbrev cX5_write : ByteArray := prog_7_method_69_code
def yX5_write : MethodName := ⟨RX5, "write", "(I)I"⟩
abbrev cX5_sumOf : ByteArray := prog_7_method_70_code
def yX5_sumOf : MethodName := ⟨RX5, "sumOf", "(I)I"⟩
abbrev cX5_count : ByteArray := prog_7_method_71_code
def yX5_count : MethodName := ⟨RX5, "count", "(I)I"⟩
abbrev cX5_digest : ByteArray := prog_7_method_72_code
def yX5_digest : MethodName := ⟨RX5, "digest", "()J"⟩
def RJx8e188 : String := "java/lang/Cloneable"
def RJ6 : String := "java/lang/Integer"
abbrev cJ6_bitCount_0f7a4 : ByteArray := prog_9_method_49_code
def yJ6_bitCount_0f7a4 : MethodName := ⟨RJ6, "bitCount", "(I)I"⟩
def RJ9 : String := "java/lang/Math"
abbrev cJ9_max_7cf53 : ByteArray := prog_10_method_65_code
def yJ9_max_7cf53 : MethodName := ⟨RJ9, "max", "(II)I"⟩
abbrev cJ9_min_7cf53 : ByteArray := prog_10_method_69_code
def yJ9_min_7cf53 : MethodName := ⟨RJ9, "min", "(II)I"⟩
def RJ10 : String := "java/lang/System"
def RJ7 : String := "java/util/Arrays"
abbrev cJ7_fill_53178 : ByteArray := prog_12_method_103_code
def yJ7_fill_53178 : MethodName := ⟨RJ7, "fill", "([II)V"⟩
def RL : String := "PrickedPagesLaw"
abbrev cL_law : ByteArray := code
def yL_law : MethodName := ⟨RL, "law", "([I)Z"⟩
end
section
/-! THE PURE MACHINE: the bytecode's own steps over numbers: a cell is a place in a list of shapes, its contents a function -/
abbrev qW : Type := Nat → Nat → Int32
abbrev qL : Type := List (Option Value)
/-- a cell's shape: a row of numbers (kind, length); a row of cells (kind, which); an object (class, its fields: a cell, or a number) -/
abbrev qS : Type := (Nat × Nat) ⊕ ((Nat × List Nat) ⊕ (Nat × List (Option Nat)))
/-- a method: name, bytes, locals, answer, class number, frames, locals' room -/
abbrev qI : Type := MethodName × ByteArray × Nat × Option FieldType × Nat × Nat × Nat
abbrev mY (I : qI) : MethodName := I.1
abbrev mB (I : qI) : ByteArray := I.2.1
abbrev mL (I : qI) : Nat := I.2.2.1
abbrev mR (I : qI) : Option FieldType := I.2.2.2.1
abbrev mC (I : qI) : Nat := I.2.2.2.2.1
abbrev mF (I : qI) : Nat := I.2.2.2.2.2.1
abbrev mK (I : qI) : Nat := I.2.2.2.2.2.2
abbrev qO : Type := (Nat × qL × List Value × qW) ⊕ ((Option Value × qW) ⊕ (qI × List Value × Nat × qL × List Value × qW))
abbrev qX : Type := Option (Nat × (Nat → Int32))
/-- the tables of a run: what a call, a field, a constant of a class is -/
abbrev qT : Type := (Nat → Nat → Option (Nat × qI × Nat)) × (Nat → Nat → Option (Nat × Nat × Nat)) × (Nat → Nat → Option Int32) × (Nat → Nat → Option Int64) × (Nat → Nat → Bool)
def q_scr : Nat := 47
def q_up (w : qW) (k j : Nat) (v : Int32) : qW := fun a => if a = k then upd (w a) j v else w a
/-- a row of a cell, whole -/
def q_row (w : qW) (k : Nat) (f : Nat → Int32) : qW := fun a => if a = k then f else w a
def q_ic (n : Int) : Int32 := match n with
  | .ofNat k => Int32.ofNat k
  | .negSucc k => -(Int32.ofNat (k + 1))
def q_go (pc : Nat) (L : qL) (S : List Value) (w : qW) : Option qO := some (.inl (pc, L, S, w))
def q_fr (L : qL) (i : Nat) : Bool := match i with
  | 0 => true
  | j + 1 => match L[j]? with
    | some (some u) => u.category == 1
    | _ => true
def q_st (L : qL) (i : Nat) (v : Value) : Option qL := if i < L.length ∧ q_fr L i = true then some (L.set i (some v)) else none
def q_st2 (L : qL) (i : Nat) (v : Value) : Option qL := if i + 1 < L.length ∧ q_fr L i = true then some ((L.set i (some v)).set (i + 1) none) else none
def q_to (pc : Nat) (off : Int) : Option Nat := match (pc : Int) + off with
  | .ofNat t => some t
  | .negSucc _ => none
def q_if (c : Jvm.ClassFile.Cond) (x y : Int32) (a b : Option qO) : Option qO := match c with
  | .eq => if x = y then a else b
  | .ne => if ¬ x = y then a else b
  | .lt => if x < y then a else b
  | .ge => if y ≤ x then a else b
  | .gt => if y < x then a else b
  | .le => if x ≤ y then a else b
def q_cat (r : List Value) : Nat := (r.map fun v => v.category).sum
def q_get (sh : List qS) (k ci j : Nat) (w : qW) : Option Value := match sh[k]? with
  | some (.inr (.inr (c', fs))) => if c' = ci then (match fs[j]? with
    | some none => some (.int (w k j))
    | some (some r) => some (.ref r)
    | none => none) else none
  | _ => none
def q_isint (sh : List qS) (k ci j : Nat) : Bool := match sh[k]? with
  | some (.inr (.inr (c', fs))) => c' == ci && (match fs[j]? with
    | some none => true
    | _ => false)
  | _ => false
def q_isobj (sh : List qS) (k ci : Nat) : Bool := match sh[k]? with
  | some (.inr (.inr (c', _))) => c' == ci
  | _ => false
def q_b1 (len pc : Nat) (L : qL) (S : List Value) (w : qW) (f : Int32 → Int32 → Int32) : Option qO := match len, S with
  | 1, .int y :: .int x :: r => q_go (pc + 1) L (.int (f x y) :: r) w
  | _, _ => none
def q_u1 (len pc : Nat) (L : qL) (S : List Value) (w : qW) (f : Int32 → Value) : Option qO := match len, S with
  | 1, .int x :: r => q_go (pc + 1) L (f x :: r) w
  | _, _ => none
def q_ld (len len0 pc : Nat) (L : qL) (i : Nat) (S : List Value) (w : qW) (ok : Value → Bool) : Option qO := if len = len0 then (match L[i]? with
  | some (some v) => if ok v = true then q_go (pc + len0) L (v :: S) w else none
  | _ => none) else none
def q_sv (len len0 pc : Nat) (L : qL) (i : Nat) (S : List Value) (w : qW) (ok : Value → Bool) : Option qO := if len = len0 then (match S with
  | v :: r => if ok v = true then (match q_st L i v with
    | some L' => q_go (pc + len0) L' r w
    | none => none) else none
  | _ => none) else none
def q_vi : Value → Bool
  | .int _ => true
  | _ => false
def q_vl : Value → Bool
  | .long _ => true
  | _ => false
def q_va : Value → Bool
  | .ref _ => true
  | .null => true
  | _ => false
/-- a load out of a row: of kind t -/
def q_al (sh : List qS) (sc : qX) (t len pc : Nat) (L : qL) (S : List Value) (w : qW) : Option qO := match len, S with
  | 1, .int i :: .ref k :: r => match sh[k]? with
    | some (.inl (t', n)) => if t' = t then (if i < 0 ∨ n ≤ i.toNatClampNeg then none else q_go (pc + 1) L (.int (w k i.toNatClampNeg) :: r) w) else none
    | some _ => none
    | none => if k = q_scr ∧ t = 0 then (match sc with
      | some (n, xs) => if i < 0 ∨ n ≤ i.toNatClampNeg then none else q_go (pc + 1) L (.int (xs i.toNatClampNeg) :: r) w
      | none => none) else none
  | _, _ => none
def q_as (sh : List qS) (t len pc : Nat) (L : qL) (S : List Value) (w : qW) (f : Int32 → Int32) : Option qO := match len, S with
  | 1, .int x :: .int i :: .ref k :: r => match sh[k]? with
    | some (.inl (t', n)) => if t' = t then (if i < 0 ∨ n ≤ i.toNatClampNeg then none else q_go (pc + 1) L r (q_up w k i.toNatClampNeg (f x))) else none
    | _ => none
  | _, _ => none
def q_ac (sh : List qS) (I : qI) (pc : Nat) (L : qL) (S : List Value) (w : qW) : Option qO := match S with
  | .int n :: .int dp :: .ref kd :: .int sp :: .ref ks :: r => match sh[ks]?, sh[kd]? with
    | some (.inl (0, n0)), some (.inl (0, n1)) => if sp < 0 ∨ dp < 0 ∨ n < 0 ∨ ¬ (sp.toNatClampNeg + n.toNatClampNeg ≤ n0) ∨ ¬ (dp.toNatClampNeg + n.toNatClampNeg ≤ n1) then none
      else if 1 ≤ mF I ∧ q_cat r + (nativeFrameWords "java/lang/System" "arraycopy" 5 + 11) ≤ mK I then q_go (pc + 3) L r (q_row w kd (va_cpy (w ks) (w kd) sp.toNatClampNeg dp.toNatClampNeg n.toNatClampNeg)) else none
    | _, _ => none
  | _ => none
def q_mn (I : qI) (pc : Nat) (L : qL) (S : List Value) (w : qW) : Option qO := match S with
  | .int y :: .int x :: r => if 1 ≤ mF I ∧ q_cat r + 13 ≤ mK I then q_go (pc + 3) L (.int (if y < x then y else x) :: r) w else none
  | _ => none
def q_cl1 (I I' : qI) (r : List Value) : Bool := decide (mF I' + 1 ≤ mF I ∧ 8 + (mL I' + 11) + mK I' ≤ mK I ∧ q_cat r ≤ 8)
def q_step (tb : qT) (sh : List qS) (sc : qX) (I : qI) (pc len : Nat) (ins : Instr) (L : qL) (S : List Value) (w : qW) : Option qO := match ins with
  | .iconst n => if len = 1 then q_go (pc + 1) L (.int (q_ic n) :: S) w else none
  | .bipush n => if len = 2 ∧ -128 ≤ n ∧ n < 128 then q_go (pc + 2) L (.int (q_ic n) :: S) w else none
  | .sipush n => if len = 3 ∧ (Int16.ofInt n).toInt32 = q_ic n then q_go (pc + 3) L (.int (q_ic n) :: S) w else none
  | .aconst_null => if len = 1 then q_go (pc + 1) L (.null :: S) w else none
  | .ldc i => if len = 2 then (match tb.2.2.1 (mC I) i with
    | some v => q_go (pc + 2) L (.int v :: S) w
    | none => none) else none
  | .ldc_w i => if len = 3 then (match tb.2.2.1 (mC I) i with
    | some v => q_go (pc + 3) L (.int v :: S) w
    | none => none) else none
  | .ldc2_w i => if len = 3 then (match tb.2.2.2.1 (mC I) i with
    | some v => q_go (pc + 3) L (.long v :: S) w
    | none => none) else none
  | .iload_n k => q_ld len 1 pc L k.val S w q_vi
  | .iload k => q_ld len 2 pc L k S w q_vi
  | .lload_n k => q_ld len 1 pc L k.val S w q_vl
  | .aload_n k => q_ld len 1 pc L k.val S w q_va
  | .aload k => q_ld len 2 pc L k S w q_va
  | .istore_n k => q_sv len 1 pc L k.val S w q_vi
  | .istore k => q_sv len 2 pc L k S w q_vi
  | .astore_n k => q_sv len 1 pc L k.val S w q_va
  | .astore k => q_sv len 2 pc L k S w q_va
  | .lstore_n k => match len, S with
    | 1, .long x :: r => (match q_st2 L k.val (.long x) with
      | some L' => q_go (pc + 1) L' r w
      | none => none)
    | _, _ => none
  | .iinc i n => if len = 3 then (match L[i]? with
    | some (some (.int x)) => (match q_st L i (.int (x + q_ic n)) with
      | some L' => q_go (pc + 3) L' S w
      | none => none)
    | _ => none) else none
  | .dup => match len, S with
    | 1, v :: r => if v.category = 1 then q_go (pc + 1) L (v :: v :: r) w else none
    | _, _ => none
  | .dup2 => match len, S with
    | 1, a :: b :: r => if a.category = 1 ∧ b.category = 1 then q_go (pc + 1) L (a :: b :: a :: b :: r) w else none
    | _, _ => none
  | .iadd => q_b1 len pc L S w (fun x y => x + y)
  | .isub => q_b1 len pc L S w (fun x y => x - y)
  | .imul => q_b1 len pc L S w (fun x y => x * y)
  | .iand => q_b1 len pc L S w (fun x y => x &&& y)
  | .ior => q_b1 len pc L S w (fun x y => x ||| y)
  | .ixor => q_b1 len pc L S w (fun x y => x ^^^ y)
  | .ishl => q_b1 len pc L S w (fun x y => x <<< (y &&& 31))
  | .ishr => q_b1 len pc L S w (fun x y => x >>> (y &&& 31))
  | .iushr => q_b1 len pc L S w (fun x y => (x.toUInt32 >>> (y.toUInt32 &&& Int32.toUInt32 31)).toInt32)
  | .idiv => match len, S with
    | 1, .int y :: .int x :: r => if y = 0 then none else q_go (pc + 1) L (.int (x / y) :: r) w
    | _, _ => none
  | .irem => match len, S with
    | 1, .int y :: .int x :: r => if y = 0 then none else q_go (pc + 1) L (.int (x - x / y * y) :: r) w
    | _, _ => none
  | .i2l => q_u1 len pc L S w (fun x => .long x.toInt64)
  | .i2b => q_u1 len pc L S w (fun x => .int x.toInt8.toInt32)
  | .i2s => q_u1 len pc L S w (fun x => .int x.toInt16.toInt32)
  | .ladd => match len, S with
    | 1, .long y :: .long x :: r => q_go (pc + 1) L (.long (x + y) :: r) w
    | _, _ => none
  | .lmul => match len, S with
    | 1, .long y :: .long x :: r => q_go (pc + 1) L (.long (x * y) :: r) w
    | _, _ => none
  | .lcmp => match len, S with
    | 1, .long y :: .long x :: r => q_go (pc + 1) L (.int (lg_cmp x y) :: r) w
    | _, _ => none
  | .ifCond c off => match len, S with
    | 3, .int x :: r => (match q_to pc off with
      | some t => q_if c x 0 (q_go t L r w) (q_go (pc + 3) L r w)
      | none => none)
    | _, _ => none
  | .if_icmp c off => match len, S with
    | 3, .int y :: .int x :: r => (match q_to pc off with
      | some t => q_if c x y (q_go t L r w) (q_go (pc + 3) L r w)
      | none => none)
    | _, _ => none
  | .ifnull off => match len, S with
    | 3, .null :: r => (match q_to pc off with
      | some t => q_go t L r w
      | none => none)
    | 3, .ref _ :: r => q_go (pc + 3) L r w
    | _, _ => none
  | .ifnonnull off => match len, S with
    | 3, .ref _ :: r => (match q_to pc off with
      | some t => q_go t L r w
      | none => none)
    | 3, .null :: r => q_go (pc + 3) L r w
    | _, _ => none
  | .goto off => if len = 3 then (match q_to pc off with
    | some t => q_go t L S w
    | none => none) else none
  | .tableswitch d lo hi offs => match S with
    | .int x :: r => if x.toInt < lo ∨ hi < x.toInt then (match q_to pc d with
        | some t => q_go t L r w
        | none => none) else (match offs[(x.toInt - lo).toNat]? with
        | some o => (match q_to pc o with
          | some t => q_go t L r w
          | none => none)
        | none => none)
    | _ => none
  | .getfield i => match len, S with
    | 3, .ref k :: r => (match tb.2.1 (mC I) i with
      | some (_, ci, j) => (match q_get sh k ci j w with
        | some v => q_go (pc + 3) L (v :: r) w
        | none => none)
      | none => none)
    | _, _ => none
  | .putfield i => match len, S with
    | 3, .int v :: .ref k :: r => (match tb.2.1 (mC I) i with
      | some (_, ci, j) => if q_isint sh k ci j = true ∧ tb.2.2.2.2 ci j = true then q_go (pc + 3) L r (q_up w k j v) else none
      | none => none)
    | _, _ => none
  | .arraylength => match len, S with
    | 1, .ref k :: r => (match sh[k]? with
      | some (.inl (_, n)) => q_go (pc + 1) L (.int (Int32.ofNat n) :: r) w
      | some (.inr (.inl (_, ks))) => q_go (pc + 1) L (.int (Int32.ofNat ks.length) :: r) w
      | some (.inr (.inr _)) => none
      | none => if k = q_scr then (match sc with
        | some (n, _) => q_go (pc + 1) L (.int (Int32.ofNat n) :: r) w
        | none => none) else none)
    | _, _ => none
  | .iaload => q_al sh sc 0 len pc L S w
  | .baload => q_al sh none 1 len pc L S w
  | .iastore => q_as sh 0 len pc L S w (fun x => x)
  | .bastore => q_as sh 1 len pc L S w (vp_nar .boolean)
  | .aaload => match len, S with
    | 1, .int i :: .ref k :: r => (match sh[k]? with
      | some (.inr (.inl (2, ks))) => if i < 0 ∨ ks.length ≤ i.toNatClampNeg then none else q_go (pc + 1) L (va_rf ks[i.toNatClampNeg]? :: r) w
      | _ => none)
    | _, _ => none
  | .invokestatic i => if len = 3 then (if mC I = 4 ∧ i = 242 then q_ac sh I pc L S w else if mC I = 4 ∧ i = 248 then q_mn I pc L S w else (match tb.1 (mC I) i with
    | some (k, I', n) => if k ≤ 1 ∧ n ≤ S.length ∧ q_cl1 I I' (S.drop n) = true then some (.inr (.inr (I', (S.take n).reverse, pc + 3, L, S.drop n, w))) else none
    | none => none)) else none
  | .invokevirtual i => if len = 3 then (match tb.1 (mC I) i with
    | some (k, I', n) => (match S.drop n with
      | .ref b :: r => if 2 ≤ k ∧ n ≤ S.length ∧ q_cl1 I I' r = true ∧ q_isobj sh b (mC I') = true then some (.inr (.inr (I', .ref b :: (S.take n).reverse, pc + 3, L, r, w))) else none
      | _ => none)
    | none => none) else none
  | .ireturn => match len, S, mR I with
    | 1, [.int v], some .int => some (.inr (.inl (some (.int v), w)))
    | 1, [.int v], some .boolean => if narrow .boolean (.int v) = .int v then some (.inr (.inl (some (.int v), w))) else none
    | _, _, _ => none
  | .lreturn => match len, S, mR I with
    | 1, [.long v], some .long => some (.inr (.inl (some (.long v), w)))
    | _, _, _ => none
  | .areturn => match len, S, mR I with
    | 1, [v], some (.object _) => if q_va v = true then some (.inr (.inl (some v, w))) else none
    | _, _, _ => none
  | .return_ => match len, S, mR I with
    | 1, [], none => some (.inr (.inl (none, w)))
    | _, _, _ => none
  | _ => none
/-- a call's locals -/
def q_en : List Value → qL
  | [] => []
  | v :: r => if v.category = 2 then some v :: none :: q_en r else some v :: q_en r
def q_ent (n : Nat) (as : List Value) : Option qL := if (q_en as).length ≤ n then some (q_en as ++ List.replicate (n - (q_en as).length) none) else none
def q_ex (tb : qT) (sh : List qS) : Nat → qX → qI → Nat → qL → List Value → qW → Option (Option Value × qW)
  | 0, _, _, _, _, _, _ => none
  | f + 1, sc, I, pc, L, S, w => match decode (mB I) pc with
    | .error _ => none
    | .ok (ins, len) => match q_step tb sh sc I pc len ins L S w with
      | none => none
      | some (.inl (pc', L', S', w')) => q_ex tb sh f sc I pc' L' S' w'
      | some (.inr (.inl r)) => some r
      | some (.inr (.inr (I', as, pc', L', S', w'))) => match q_ent (mL I') as with
        | none => none
        | some L0 => match q_ex tb sh f none I' 0 L0 [] w' with
          | none => none
          | some (v, w2) => q_ex tb sh f sc I pc' L' (v.toList ++ S') w2
end
section
/-! what a run of the pure machine answers -/
theorem q_ex_mono (tb : qT) (sh : List qS) : ∀ (f : Nat) (sc : qX) (I : qI) (pc : Nat) (L : qL) (S : List Value) (w : qW) (r : Option Value × qW), q_ex tb sh f sc I pc L S w = some r → q_ex tb sh (f + 1) sc I pc L S w = some r := by
  intro f
  induction f with
  | zero => intro sc I pc L S w r h; simp [q_ex] at h
  | succ f ih =>
    intro sc I pc L S w r h
    rw [q_ex] at h
    rw [q_ex]
    cases hd : decode (mB I) pc with
    | error _ => rw [hd] at h; simp at h
    | ok il =>
      obtain ⟨ins, len⟩ := il
      rw [hd] at h
      dsimp only at h ⊢
      cases hs : q_step tb sh sc I pc len ins L S w with
      | none => rw [hs] at h; simp at h
      | some o =>
        rw [hs] at h
        rcases o with ⟨pc', L', S', w'⟩ | r' | ⟨I', as, pc', L', S', w'⟩
        · exact ih _ _ _ _ _ _ _ h
        · exact h
        · dsimp only at h ⊢
          cases he : q_ent (mL I') as with
          | none => rw [he] at h; simp at h
          | some L0 =>
            rw [he] at h
            dsimp only at h ⊢
            cases hc : q_ex tb sh f none I' 0 L0 [] w' with
            | none => rw [hc] at h; simp at h
            | some vw =>
              obtain ⟨v, w2⟩ := vw
              rw [hc] at h
              rw [ih _ _ _ _ _ _ _ hc]
              exact ih _ _ _ _ _ _ _ h
theorem q_ex_le (tb : qT) (sh : List qS) {f g : Nat} (hfg : f ≤ g) {sc : qX} {I : qI} {pc : Nat} {L : qL} {S : List Value} {w : qW} {r : Option Value × qW} (h : q_ex tb sh f sc I pc L S w = some r) : q_ex tb sh g sc I pc L S w = some r := by
  induction hfg with
  | refl => exact h
  | step _ ih => exact q_ex_mono tb sh _ _ _ _ _ _ _ _ ih
noncomputable def q_ev (tb : qT) (sh : List qS) (sc : qX) (I : qI) (pc : Nat) (L : qL) (S : List Value) (w : qW) : Option (Option Value × qW) :=
  @dite _ (∃ r f, q_ex tb sh f sc I pc L S w = some r) (Classical.propDecidable _) (fun h => some h.choose) (fun _ => none)
theorem q_ev_iff (tb : qT) (sh : List qS) (sc : qX) (I : qI) (pc : Nat) (L : qL) (S : List Value) (w : qW) (r : Option Value × qW) : q_ev tb sh sc I pc L S w = some r ↔ ∃ f, q_ex tb sh f sc I pc L S w = some r := by
  unfold q_ev
  by_cases h : ∃ r f, q_ex tb sh f sc I pc L S w = some r
  · rw [dif_pos h]
    obtain ⟨f, hf⟩ := h.choose_spec
    constructor
    · intro e
      exact ⟨f, by rw [hf]; exact e⟩
    · rintro ⟨g, hg⟩
      have h1 := q_ex_le tb sh (Nat.le_max_left f g) hf
      have h2 := q_ex_le tb sh (Nat.le_max_right f g) hg
      rw [h1] at h2
      exact h2
  · rw [dif_neg h]
    constructor
    · intro e; cases e
    · rintro ⟨f, hf⟩
      exact absurd ⟨r, f, hf⟩ h
section QE
variable {tb : qT} {sh : List qS} {sc : qX} {I : qI} {pc len : Nat} {ins : Instr} {L : qL} {S : List Value} {w : qW}
theorem ev_s {pc' : Nat} {L' : qL} {S' : List Value} {w' : qW} (hd : decode (mB I) pc = .ok (ins, len)) (h : q_step tb sh sc I pc len ins L S w = some (.inl (pc', L', S', w'))) : q_ev tb sh sc I pc L S w = q_ev tb sh sc I pc' L' S' w' := by
  apply Option.ext
  intro r
  rw [q_ev_iff, q_ev_iff]
  constructor
  · rintro ⟨f, hf⟩
    cases f with
    | zero => simp [q_ex] at hf
    | succ f => rw [q_ex, hd] at hf; dsimp only at hf; rw [h] at hf; exact ⟨f, hf⟩
  · rintro ⟨f, hf⟩
    refine ⟨f + 1, ?_⟩
    rw [q_ex, hd]; dsimp only; rw [h]; exact hf
theorem ev_if {c : Prop} [hc : Decidable c] {p1 p2 : Nat} {L1 L2 : qL} {S1 S2 : List Value} {w1 w2 : qW} (hd : decode (mB I) pc = .ok (ins, len)) (h : q_step tb sh sc I pc len ins L S w = if c then some (.inl (p1, L1, S1, w1)) else some (.inl (p2, L2, S2, w2))) : q_ev tb sh sc I pc L S w = if c then q_ev tb sh sc I p1 L1 S1 w1 else q_ev tb sh sc I p2 L2 S2 w2 := by
  by_cases hb : c
  · rw [if_pos hb]; rw [if_pos hb] at h; exact ev_s hd h
  · rw [if_neg hb]; rw [if_neg hb] at h; exact ev_s hd h
theorem ev_n (hd : decode (mB I) pc = .ok (ins, len)) (h : q_step tb sh sc I pc len ins L S w = none) : q_ev tb sh sc I pc L S w = none := by
  apply Option.ext
  intro r
  rw [q_ev_iff]
  constructor
  · rintro ⟨f, hf⟩
    cases f with
    | zero => simp [q_ex] at hf
    | succ f => rw [q_ex, hd] at hf; dsimp only at hf; rw [h] at hf; simp at hf
  · intro e; cases e
/-- a step that is taken only where a check holds -/
theorem ev_g {c : Prop} [hc : Decidable c] {p1 : Nat} {L1 : qL} {S1 : List Value} {w1 : qW} (hd : decode (mB I) pc = .ok (ins, len)) (h : q_step tb sh sc I pc len ins L S w = if c then none else some (.inl (p1, L1, S1, w1))) : q_ev tb sh sc I pc L S w = if c then none else q_ev tb sh sc I p1 L1 S1 w1 := by
  by_cases hb : c
  · rw [if_pos hb]; rw [if_pos hb] at h; exact ev_n hd h
  · rw [if_neg hb]; rw [if_neg hb] at h; exact ev_s hd h
theorem ev_r {r : Option Value × qW} (hd : decode (mB I) pc = .ok (ins, len)) (h : q_step tb sh sc I pc len ins L S w = some (.inr (.inl r))) : q_ev tb sh sc I pc L S w = some r := by
  rw [q_ev_iff]
  refine ⟨1, ?_⟩
  rw [q_ex, hd]; dsimp only; rw [h]
theorem ev_rb {c : Prop} [hc : Decidable c] {r : Option Value × qW} (hd : decode (mB I) pc = .ok (ins, len)) (h : q_step tb sh sc I pc len ins L S w = if c then some (.inr (.inl r)) else none) : q_ev tb sh sc I pc L S w = if c then some r else none := by
  by_cases hb : c
  · rw [if_pos hb]; rw [if_pos hb] at h; exact ev_r hd h
  · rw [if_neg hb]; rw [if_neg hb] at h; exact ev_n hd h
theorem ev_c {I' : qI} {as : List Value} {pc' : Nat} {L' L0 : qL} {S' : List Value} {w' : qW} (hd : decode (mB I) pc = .ok (ins, len)) (h : q_step tb sh sc I pc len ins L S w = some (.inr (.inr (I', as, pc', L', S', w')))) (he : q_ent (mL I') as = some L0) : q_ev tb sh sc I pc L S w = (q_ev tb sh none I' 0 L0 [] w').bind (fun r => q_ev tb sh sc I pc' L' (r.1.toList ++ S') r.2) := by
  apply Option.ext
  intro r
  rw [q_ev_iff, Option.bind_eq_some_iff]
  constructor
  · rintro ⟨f, hf⟩
    cases f with
    | zero => simp [q_ex] at hf
    | succ f =>
      rw [q_ex, hd] at hf; dsimp only at hf; rw [h] at hf; dsimp only at hf; rw [he] at hf; dsimp only at hf
      cases hc : q_ex tb sh f none I' 0 L0 [] w' with
      | none => rw [hc] at hf; simp at hf
      | some vw =>
        rw [hc] at hf
        exact ⟨vw, (q_ev_iff ..).mpr ⟨f, hc⟩, (q_ev_iff ..).mpr ⟨f, hf⟩⟩
  · rintro ⟨vw, h1, h2⟩
    obtain ⟨f1, h1⟩ := (q_ev_iff ..).mp h1
    obtain ⟨f2, h2⟩ := (q_ev_iff ..).mp h2
    refine ⟨max f1 f2 + 1, ?_⟩
    rw [q_ex, hd]; dsimp only; rw [h]; dsimp only; rw [he]; dsimp only
    rw [q_ex_le tb sh (Nat.le_max_left f1 f2) h1]
    exact q_ex_le tb sh (Nat.le_max_right f1 f2) h2
end QE
end
section
/-! THE TABLES of this program: its methods, what its class files link, and that the Statement has the words for it -/
def q_tbl : List Cond := lw_tbl.filter goodWord
set_option maxRecDepth 100000 in
theorem q_t {w : Cond} (i : Nat) (h : tables_1[i]? = some w) (hg : goodWord w = true) : w ∈ q_tbl := List.mem_filter.mpr ⟨List.mem_append_right _ (List.mem_of_getElem? h), hg⟩
set_option maxRecDepth 100000 in
theorem q_s {w : Cond} (i : Nat) (h : (k2_sels lw_privs)[i]? = some w) (hg : goodWord w = true) : w ∈ q_tbl := List.mem_filter.mpr ⟨List.mem_append_left _ (List.mem_of_getElem? h), hg⟩
set_option maxRecDepth 100000 in
theorem q_lt {w : Cond} (i : Nat) (h : tables_1[i]? = some w) : w ∈ lw_tbl := List.mem_append_right _ (List.mem_of_getElem? h)
def q_nm (k : Nat) : String := match k with
  | 0 => RX0
  | 1 => RX1
  | 2 => RX2
  | 3 => RX3
  | 4 => RX4
  | 5 => RX5
  | 6 => RL
  | 7 => RJ6
  | 8 => RJ9
  | _ => RJ7
def q_cl : List vw_C := [(RX0, TX0, 3), (RX1, TX1, 4), (RX2, TX2, 2), (RX3, TX3, 5), (RX4, TX4, 14), (RX5, TX5, 25)]
def iX0_isLost : qI := (yX0_isLost, cX0_isLost, 1, (some .boolean), 0, 0, 0)
def iX0_renew : qI := (yX0_renew, cX0_renew, 3, none, 0, 1, 23)
def iX0_hasStretch : qI := (yX0_hasStretch, cX0_hasStretch, 3, (some .boolean), 0, 0, 0)
def iX0_store : qI := (yX0_store, cX0_store, 4, none, 0, 1, 22)
def iX1_add : qI := (yX1_add, cX1_add, 4, none, 1, 1, 22)
def iX1_pointsAt : qI := (yX1_pointsAt, cX1_pointsAt, 6, (some .int), 1, 1, 21)
def iX2_hasRoom : qI := (yX2_hasRoom, cX2_hasRoom, 1, (some .boolean), 2, 0, 0)
def iX2_append : qI := (yX2_append, cX2_append, 2, none, 2, 1, 22)
def iX3_has : qI := (yX3_has, cX3_has, 2, (some .boolean), 3, 1, 22)
def iX3_lettersOf : qI := (yX3_lettersOf, cX3_lettersOf, 2, (some .int), 3, 0, 0)
def iX3_letterOf : qI := (yX3_letterOf, cX3_letterOf, 4, (some .int), 3, 0, 0)
def iX3_split : qI := (yX3_split, cX3_split, 5, none, 3, 3, 67)
def iX3_firstFault : qI := (yX3_firstFault, cX3_firstFault, 6, (some .int), 3, 2, 42)
def iX4_type : qI := (yX4_type, cX4_type, 4, (some .int), 4, 5, 111)
def iX4_wipe : qI := (yX4_wipe, cX4_wipe, 4, (some .int), 4, 5, 111)
def iX4_fault : qI := (yX4_fault, cX4_fault, 2, (some .int), 4, 3, 64)
def iX4_sign : qI := (yX4_sign, cX4_sign, 4, (some .int), 4, 4, 85)
def iX4_read : qI := (yX4_read, cX4_read, 4, (some .int), 4, 4, 85)
def iX4_slip : qI := (yX4_slip, cX4_slip, 4, (some .int), 4, 4, 85)
def iX4_undo : qI := (yX4_undo, cX4_undo, 1, (some .int), 4, 4, 85)
def iX4_set : qI := (yX4_set, cX4_set, 4, (some .int), 4, 1, 22)
def iX4_often : qI := (yX4_often, cX4_often, 4, (some .int), 4, 1, 22)
def iX4_cell : qI := (yX4_cell, cX4_cell, 2, (some .int), 4, 2, 43)
def iX4_letter : qI := (yX4_letter, cX4_letter, 2, (some .int), 4, 2, 43)
def iX4_judged : qI := (yX4_judged, cX4_judged, 2, (some .int), 4, 2, 43)
def iX4_wrong : qI := (yX4_wrong, cX4_wrong, 2, (some .int), 4, 2, 43)
def iX4_mirrored : qI := (yX4_mirrored, cX4_mirrored, 2, (some .int), 4, 1, 22)
def iX4_both : qI := (yX4_both, cX4_both, 2, (some .int), 4, 5, 113)
def iX4_fits : qI := (yX4_fits, cX4_fits, 3, (some .int), 4, 3, 71)
def iX4_meant : qI := (yX4_meant, cX4_meant, 4, (some .int), 4, 4, 97)
def iX4_within : qI := (yX4_within, cX4_within, 6, (some .int), 4, 3, 71)
def iX4_line : qI := (yX4_line, cX4_line, 3, (some .int), 4, 4, 96)
def iX4_slippery : qI := (yX4_slippery, cX4_slippery, 4, (some .int), 4, 2, 41)
def iX4_better : qI := (yX4_better, cX4_better, 5, (some .int), 4, 3, 65)
def iX4_shorts : qI := (yX4_shorts, cX4_shorts, 4, (some .int), 4, 4, 94)
def iX4_under : qI := (yX4_under, cX4_under, 5, (some .int), 4, 3, 70)
def iX4_clash : qI := (yX4_clash, cX4_clash, 4, (some .int), 4, 2, 45)
def iX4_hand : qI := (yX4_hand, cX4_hand, 6, (some .int), 4, 1, 22)
def iX4_whose : qI := (yX4_whose, cX4_whose, 4, (some .int), 4, 5, 110)
def iX4_wear : qI := (yX4_wear, cX4_wear, 3, (some .int), 4, 3, 68)
def iX4_sheet : qI := (yX4_sheet, cX4_sheet, 5, (some .int), 4, 2, 45)
def iX4_lose : qI := (yX4_lose, cX4_lose, 4, (some .int), 4, 2, 45)
def iX4_put : qI := (yX4_put, cX4_put, 7, (some .int), 4, 2, 45)
def iX4_get : qI := (yX4_get, cX4_get, 6, (some .int), 4, 2, 44)
def iX4_copy : qI := (yX4_copy, cX4_copy, 8, (some .int), 4, 1, 40)
def iX4_write : qI := (yX4_write, cX4_write, 5, (some .int), 4, 2, 45)
def iX4_count : qI := (yX4_count, cX4_count, 2, (some .int), 4, 3, 65)
def iX4_digest : qI := (yX4_digest, cX4_digest, 4, (some .long), 4, 7, 159)
def iX4_mixCells : qI := (yX4_mixCells, cX4_mixCells, 6, (some .long), 4, 5, 120)
def iX4_mixWords : qI := (yX4_mixWords, cX4_mixWords, 6, (some .long), 4, 6, 134)
def iX4_mix : qI := (yX4_mix, cX4_mix, 4, (some .long), 4, 0, 0)
def iX4_at : qI := (yX4_at, cX4_at, 2, (some .int), 4, 0, 0)
def iX4_lay : qI := (yX4_lay, cX4_lay, 3, none, 4, 0, 0)
def iX4_isWithin : qI := (yX4_isWithin, cX4_isWithin, 3, (some .boolean), 4, 0, 0)
def iX4_isSign : qI := (yX4_isSign, cX4_isSign, 1, (some .boolean), 4, 1, 22)
def iX4_isForm : qI := (yX4_isForm, cX4_isForm, 1, (some .boolean), 4, 1, 22)
def iX4_isCell : qI := (yX4_isCell, cX4_isCell, 2, (some .boolean), 4, 1, 22)
def iX4_pointsOf : qI := (yX4_pointsOf, cX4_pointsOf, 4, (some .int), 4, 1, 21)
def iX4_textAt : qI := (yX4_textAt, cX4_textAt, 2, (some (.object "PrickedPages$Text")), 4, 0, 0)
def iX4_pageFault : qI := (yX4_pageFault, cX4_pageFault, 3, (some .int), 4, 2, 42)
def iX4_isLetter : qI := (yX4_isLetter, cX4_isLetter, 1, (some .boolean), 4, 1, 22)
def iX4_layTexts : qI := (yX4_layTexts, cX4_layTexts, 1, none, 4, 4, 91)
def iX4_layCells : qI := (yX4_layCells, cX4_layCells, 2, none, 4, 3, 64)
def iX4_printedAt : qI := (yX4_printedAt, cX4_printedAt, 3, (some .int), 4, 2, 42)
def iX4_readingOf : qI := (yX4_readingOf, cX4_readingOf, 3, (some .int), 4, 1, 21)
def iX4_swapColumns : qI := (yX4_swapColumns, cX4_swapColumns, 1, (some .int), 4, 0, 0)
def iX4_cellsOfLetters : qI := (yX4_cellsOfLetters, cX4_cellsOfLetters, 3, (some .int), 4, 2, 43)
def iX4_signOf : qI := (yX4_signOf, cX4_signOf, 3, (some .int), 4, 1, 23)
def iX4_wordsBothWays : qI := (yX4_wordsBothWays, cX4_wordsBothWays, 3, (some .int), 4, 4, 91)
def iX4_wordFromBehind : qI := (yX4_wordFromBehind, cX4_wordFromBehind, 3, (some .int), 4, 3, 69)
def iX4_isReadFromBehindAs : qI := (yX4_isReadFromBehindAs, cX4_isReadFromBehindAs, 5, (some .boolean), 4, 2, 45)
def iX4_hasCellsFor : qI := (yX4_hasCellsFor, cX4_hasCellsFor, 3, (some .boolean), 4, 1, 21)
def iX4_costAt : qI := (yX4_costAt, cX4_costAt, 7, (some .int), 4, 2, 45)
def iX4_cheapestAt : qI := (yX4_cheapestAt, cX4_cheapestAt, 7, (some .int), 4, 3, 71)
def iX4_bestLine : qI := (yX4_bestLine, cX4_bestLine, 6, (some .int), 4, 3, 71)
def iX4_bestBehindWord : qI := (yX4_bestBehindWord, cX4_bestBehindWord, 3, (some .int), 4, 1, 21)
def iX4_isOnePointLess : qI := (yX4_isOnePointLess, cX4_isOnePointLess, 2, (some .boolean), 4, 1, 20)
def iX4_isApartFromOthers : qI := (yX4_isApartFromOthers, cX4_isApartFromOthers, 5, (some .boolean), 4, 2, 41)
def iX4_freeSigns : qI := (yX4_freeSigns, cX4_freeSigns, 3, (some .int), 4, 2, 43)
def iX4_shortened : qI := (yX4_shortened, cX4_shortened, 6, (some .int), 4, 3, 69)
def iX4_mostSavingBut : qI := (yX4_mostSavingBut, cX4_mostSavingBut, 6, (some .int), 4, 2, 44)
def iX4_savedBy : qI := (yX4_savedBy, cX4_savedBy, 4, (some .int), 4, 1, 21)
def iX4_lieTogether : qI := (yX4_lieTogether, cX4_lieTogether, 6, (some .boolean), 4, 2, 45)
def iX4_firstClash : qI := (yX4_firstClash, cX4_firstClash, 5, (some .int), 4, 1, 21)
def iX4_skippedAt : qI := (yX4_skippedAt, cX4_skippedAt, 2, (some .int), 4, 3, 64)
def iX4_skippedBy : qI := (yX4_skippedBy, cX4_skippedBy, 6, (some .int), 4, 4, 85)
def iX4_wearDown : qI := (yX4_wearDown, cX4_wearDown, 5, none, 4, 2, 44)
def iX4_nextRaised : qI := (yX4_nextRaised, cX4_nextRaised, 4, (some .int), 4, 1, 21)
def iX4_withoutGreatestPoint : qI := (yX4_withoutGreatestPoint, cX4_withoutGreatestPoint, 2, (some .int), 4, 0, 0)
def iX4_sheetAt : qI := (yX4_sheetAt, cX4_sheetAt, 2, (some (.object "PrickedPages$Sheet")), 4, 0, 0)
def iX4_find : qI := (yX4_find, cX4_find, 2, (some .int), 4, 0, 0)
def iX4_itemFinding : qI := (yX4_itemFinding, cX4_itemFinding, 3, (some .int), 4, 1, 22)
def iX5_in : qI := (yX5_in, cX5_in, 3, (some .boolean), 5, 0, 0)
def iX5_ones : qI := (yX5_ones, cX5_ones, 3, (some .int), 5, 0, 0)
def iX5_type : qI := (yX5_type, cX5_type, 3, (some .int), 5, 1, 22)
def iX5_wipe : qI := (yX5_wipe, cX5_wipe, 3, (some .int), 5, 1, 22)
def iX5_letterAt : qI := (yX5_letterAt, cX5_letterAt, 4, (some .int), 5, 1, 22)
def iX5_readsPage : qI := (yX5_readsPage, cX5_readsPage, 3, (some .int), 5, 2, 45)
def iX5_readsWords : qI := (yX5_readsWords, cX5_readsWords, 4, (some .int), 5, 2, 45)
def iX5_faultOf : qI := (yX5_faultOf, cX5_faultOf, 4, (some .int), 5, 3, 68)
def iX5_reads : qI := (yX5_reads, cX5_reads, 2, none, 5, 4, 91)
def iX5_fault : qI := (yX5_fault, cX5_fault, 2, (some .int), 5, 4, 91)
def iX5_isCell : qI := (yX5_isCell, cX5_isCell, 2, (some .boolean), 5, 5, 112)
def iX5_isWord : qI := (yX5_isWord, cX5_isWord, 2, (some .boolean), 5, 5, 112)
def iX5_sign : qI := (yX5_sign, cX5_sign, 4, (some .int), 5, 1, 22)
def iX5_read : qI := (yX5_read, cX5_read, 3, (some .int), 5, 2, 42)
def iX5_slip : qI := (yX5_slip, cX5_slip, 4, (some .int), 5, 1, 22)
def iX5_undo : qI := (yX5_undo, cX5_undo, 1, (some .int), 5, 0, 0)
def iX5_set : qI := (yX5_set, cX5_set, 4, (some .int), 5, 1, 22)
def iX5_often : qI := (yX5_often, cX5_often, 4, (some .int), 5, 1, 22)
def iX5_signOf : qI := (yX5_signOf, cX5_signOf, 2, (some .int), 5, 0, 0)
def iX5_cellOf : qI := (yX5_cellOf, cX5_cellOf, 4, (some .int), 5, 1, 21)
def iX5_cell : qI := (yX5_cell, cX5_cell, 2, (some .int), 5, 6, 133)
def iX5_readAs : qI := (yX5_readAs, cX5_readAs, 3, (some .int), 5, 0, 0)
def iX5_letter : qI := (yX5_letter, cX5_letter, 2, (some .int), 5, 6, 133)
def iX5_judgedNow : qI := (yX5_judgedNow, cX5_judgedNow, 2, (some .int), 5, 5, 112)
def iX5_judged : qI := (yX5_judged, cX5_judged, 1, (some .int), 5, 6, 133)
def iX5_turned : qI := (yX5_turned, cX5_turned, 1, (some .int), 5, 0, 0)
def iX5_wrongOf : qI := (yX5_wrongOf, cX5_wrongOf, 2, (some .int), 5, 2, 44)
def iX5_wrong : qI := (yX5_wrong, cX5_wrong, 2, (some .int), 5, 6, 133)
def iX5_mirrored : qI := (yX5_mirrored, cX5_mirrored, 2, (some .int), 5, 1, 22)
def iX5_bothOf : qI := (yX5_bothOf, cX5_bothOf, 6, (some .int), 5, 1, 22)
def iX5_bothAll : qI := (yX5_bothAll, cX5_bothAll, 3, (some .int), 5, 5, 112)
def iX5_both : qI := (yX5_both, cX5_both, 2, (some .int), 5, 6, 134)
def iX5_fitsOf : qI := (yX5_fitsOf, cX5_fitsOf, 7, (some .int), 5, 2, 44)
def iX5_fits : qI := (yX5_fits, cX5_fits, 3, (some .int), 5, 6, 133)
def iX5_meantOf : qI := (yX5_meantOf, cX5_meantOf, 8, (some .int), 5, 5, 112)
def iX5_meant : qI := (yX5_meant, cX5_meant, 3, (some .int), 5, 6, 139)
def iX5_withinOf : qI := (yX5_withinOf, cX5_withinOf, 5, (some .int), 5, 5, 112)
def iX5_within : qI := (yX5_within, cX5_within, 3, (some .int), 5, 6, 136)
def iX5_lineOf : qI := (yX5_lineOf, cX5_lineOf, 6, (some .int), 5, 5, 112)
def iX5_line : qI := (yX5_line, cX5_line, 2, (some .int), 5, 6, 137)
def iX5_isLess : qI := (yX5_isLess, cX5_isLess, 2, (some .boolean), 5, 1, 22)
def iX5_slipperyNow : qI := (yX5_slipperyNow, cX5_slipperyNow, 4, (some .int), 5, 2, 43)
def iX5_slippery : qI := (yX5_slippery, cX5_slippery, 1, (some .int), 5, 3, 66)
def iX5_betterOf : qI := (yX5_betterOf, cX5_betterOf, 6, (some .int), 5, 2, 43)
def iX5_better : qI := (yX5_better, cX5_better, 2, (some .int), 5, 3, 68)
def iX5_freeSigns : qI := (yX5_freeSigns, cX5_freeSigns, 3, (some .int), 5, 1, 22)
def iX5_shortsOf : qI := (yX5_shortsOf, cX5_shortsOf, 11, (some .int), 5, 5, 112)
def iX5_shorts : qI := (yX5_shorts, cX5_shorts, 3, (some .int), 5, 6, 142)
def iX5_underOf : qI := (yX5_underOf, cX5_underOf, 8, (some .int), 5, 2, 44)
def iX5_under : qI := (yX5_under, cX5_under, 3, (some .int), 5, 6, 133)
def iX5_clashOf : qI := (yX5_clashOf, cX5_clashOf, 4, (some .int), 5, 5, 112)
def iX5_clash : qI := (yX5_clash, cX5_clash, 2, (some .int), 5, 6, 135)
def iX5_hand : qI := (yX5_hand, cX5_hand, 5, (some .int), 5, 1, 22)
def iX5_whoseNow : qI := (yX5_whoseNow, cX5_whoseNow, 9, (some .int), 5, 5, 112)
def iX5_whose : qI := (yX5_whose, cX5_whose, 1, (some .int), 5, 6, 140)
def iX5_wearOf : qI := (yX5_wearOf, cX5_wearOf, 7, (some .int), 5, 5, 112)
def iX5_wear : qI := (yX5_wear, cX5_wear, 3, (some .int), 5, 6, 138)
def iX5_meets : qI := (yX5_meets, cX5_meets, 2, (some .int), 5, 0, 0)
def iX5_isSheet : qI := (yX5_isSheet, cX5_isSheet, 1, (some .boolean), 5, 1, 22)
def iX5_sheet : qI := (yX5_sheet, cX5_sheet, 5, (some .int), 5, 2, 42)
def iX5_lose : qI := (yX5_lose, cX5_lose, 2, (some .int), 5, 2, 42)
def iX5_lacks : qI := (yX5_lacks, cX5_lacks, 4, (some .int), 5, 1, 22)
def iX5_keep : qI := (yX5_keep, cX5_keep, 4, none, 5, 0, 0)
def iX5_put : qI := (yX5_put, cX5_put, 6, (some .int), 5, 2, 45)
def iX5_get : qI := (yX5_get, cX5_get, 5, (some .int), 5, 2, 45)
def iX5_copy : qI := (yX5_copy, cX5_copy, 7, (some .int), 5, 2, 42)
def iX5_write : qI := (yX5_write, cX5_write, 3, (some .int), 5, 5, 112)
def iX5_sumOf : qI := (yX5_sumOf, cX5_sumOf, 4, (some .int), 5, 5, 112)
def iX5_count : qI := (yX5_count, cX5_count, 2, (some .int), 5, 6, 135)
def iX5_digest : qI := (yX5_digest, cX5_digest, 4, (some .long), 5, 7, 156)
def iJ6_bitCount_0f7a4 : qI := (yJ6_bitCount_0f7a4, cJ6_bitCount_0f7a4, 1, (some .int), 7, 0, 0)
def iJ7_fill_53178 : qI := (yJ7_fill_53178, cJ7_fill_53178, 4, none, 9, 0, 0)
def iL_law : qI := (x, cL_law, 4, (some .boolean), 6, 10, 366)
def iX5_init : qI := (yX5_init, cX5_init, 2, none, 5, 1, 20)
def q_calls (cn : Nat) : List (Nat × (Nat × qI × Nat)) := match cn with
  | 0 => [(19, (0, iJ7_fill_53178, 2)), (28, (1, iX4_lay, 3))]
  | 1 => [(25, (1, iX4_lay, 3)), (29, (1, iX4_at, 2))]
  | 2 => [(23, (2, iX2_hasRoom, 0)), (27, (1, iX4_lay, 3))]
  | 3 => [(34, (1, iX4_isWithin, 3)), (38, (2, iX3_firstFault, 0)), (45, (0, iJ7_fill_53178, 2)), (54, (1, iX4_at, 2)), (58, (1, iX4_lay, 3)), (62, (1, iX4_isLetter, 1))]
  | 4 => [(57, (0, iJ7_fill_53178, 2)), (79, (2, iX4_textAt, 1)), (83, (0, iX4_isWithin, 3)), (87, (3, iX2_hasRoom, 0)), (91, (3, iX2_append, 1)), (94, (2, iX4_layTexts, 0)), (100, (2, iX4_pageFault, 0)), (107, (0, iX4_isSign, 1)), (111, (0, iX4_at, 2)), (115, (0, iX4_lay, 3)), (119, (2, iX4_layCells, 0)), (122, (2, iX4_sheetAt, 1)), (126, (3, iX0_isLost, 0)), (129, (2, iX4_find, 1)), (142, (3, iX1_add, 3)), (146, (2, iX4_isCell, 1)), (149, (2, iX4_readingOf, 1)), (155, (0, iX4_swapColumns, 1)), (158, (3, iX3_has, 1)), (161, (2, iX4_wordsBothWays, 0)), (164, (2, iX4_wordFromBehind, 1)), (167, (2, iX4_costAt, 2)), (171, (2, iX4_cheapestAt, 1)), (175, (2, iX4_bestLine, 0)), (178, (0, iX4_isOnePointLess, 2)), (182, (0, iJ6_bitCount_0f7a4, 1)), (187, (2, iX4_isApartFromOthers, 2)), (190, (2, iX4_freeSigns, 0)), (193, (2, iX4_shortened, 1)), (196, (2, iX4_savedBy, 1)), (199, (2, iX4_lieTogether, 3)), (202, (2, iX4_firstClash, 1)), (206, (2, iX4_skippedAt, 1)), (209, (2, iX4_skippedBy, 1)), (212, (2, iX4_wearDown, 1)), (215, (0, iX4_pointsOf, 2)), (218, (0, iX4_isForm, 1)), (221, (3, iX0_renew, 2)), (225, (0, iX4_itemFinding, 3)), (229, (3, iX0_store, 2)), (239, (3, iX0_hasStretch, 2)), (256, (2, iX4_cellsOfLetters, 0)), (261, (2, iX4_count, 1)), (264, (0, iX4_mix, 2)), (268, (2, iX4_fault, 1)), (271, (2, iX4_judged, 0)), (274, (2, iX4_mixCells, 1)), (278, (2, iX4_mixWords, 1)), (281, (2, iX4_both, 1)), (284, (2, iX4_line, 1)), (287, (2, iX4_slippery, 0)), (290, (2, iX4_better, 1)), (293, (2, iX4_shorts, 2)), (296, (2, iX4_whose, 0)), (299, (2, iX4_wear, 2)), (302, (2, iX4_cell, 1)), (305, (2, iX4_letter, 1)), (308, (2, iX4_wrong, 1)), (311, (2, iX4_meant, 2)), (314, (2, iX4_within, 2)), (317, (2, iX4_fits, 2)), (320, (2, iX4_under, 2)), (328, (0, iX4_isLetter, 1)), (331, (3, iX3_split, 0)), (334, (2, iX4_printedAt, 1)), (337, (3, iX1_pointsAt, 2)), (340, (3, iX3_letterOf, 2)), (343, (2, iX4_isReadFromBehindAs, 2)), (346, (3, iX3_lettersOf, 1)), (349, (2, iX4_signOf, 2)), (352, (2, iX4_hasCellsFor, 2)), (355, (2, iX4_bestBehindWord, 1)), (358, (2, iX4_mostSavingBut, 1)), (361, (2, iX4_nextRaised, 1)), (364, (0, iX4_withoutGreatestPoint, 1))]
  | 5 => [(75, (0, iX5_in, 3)), (82, (2, iX5_letterAt, 2)), (89, (2, iX5_readsPage, 0)), (93, (2, iX5_readsWords, 0)), (96, (2, iX5_faultOf, 1)), (100, (2, iX5_reads, 0)), (103, (0, iX5_isSheet, 1)), (107, (2, iX5_meets, 1)), (113, (2, iX5_signOf, 1)), (116, (2, iX5_isCell, 1)), (119, (2, iX5_cellOf, 1)), (122, (2, iX5_readAs, 1)), (125, (2, iX5_judgedNow, 0)), (128, (0, iX5_turned, 1)), (131, (2, iX5_wrongOf, 1)), (134, (2, iX5_bothOf, 1)), (137, (2, iX5_bothAll, 0)), (140, (2, iX5_isWord, 1)), (143, (0, iX5_ones, 1)), (146, (2, iX5_fitsOf, 2)), (149, (2, iX5_meantOf, 2)), (152, (2, iX5_withinOf, 2)), (155, (2, iX5_lineOf, 1)), (158, (0, iX5_isLess, 2)), (162, (2, iX5_slipperyNow, 0)), (165, (2, iX5_betterOf, 1)), (168, (2, iX5_freeSigns, 0)), (171, (2, iX5_shortsOf, 2)), (174, (2, iX5_underOf, 2)), (177, (2, iX5_clashOf, 1)), (180, (2, iX5_whoseNow, 0)), (183, (2, iX5_wearOf, 2)), (189, (2, iX5_lacks, 3)), (193, (2, iX5_keep, 3)), (198, (2, iX5_sumOf, 1)), (205, (2, iX5_count, 1))]
  | 6 => [(13, (2, iX4_type, 2)), (17, (2, iX5_type, 2)), (18, (2, iX4_wipe, 1)), (22, (2, iX5_wipe, 1)), (23, (2, iX4_fault, 1)), (26, (2, iX5_fault, 1)), (27, (2, iX4_sign, 2)), (30, (2, iX5_sign, 2)), (31, (2, iX4_read, 1)), (34, (2, iX5_read, 1)), (35, (2, iX4_slip, 3)), (39, (2, iX5_slip, 3)), (40, (2, iX4_undo, 0)), (44, (2, iX5_undo, 0)), (45, (2, iX4_set, 2)), (48, (2, iX5_set, 2)), (49, (2, iX4_often, 2)), (52, (2, iX5_often, 2)), (53, (2, iX4_cell, 1)), (56, (2, iX5_cell, 1)), (57, (2, iX4_letter, 1)), (60, (2, iX5_letter, 1)), (61, (2, iX4_judged, 0)), (64, (2, iX5_judged, 0)), (65, (2, iX4_wrong, 1)), (68, (2, iX5_wrong, 1)), (69, (2, iX4_mirrored, 1)), (72, (2, iX5_mirrored, 1)), (73, (2, iX4_both, 1)), (76, (2, iX5_both, 1)), (77, (2, iX4_fits, 2)), (80, (2, iX5_fits, 2)), (81, (2, iX4_meant, 2)), (84, (2, iX5_meant, 2)), (85, (2, iX4_within, 2)), (88, (2, iX5_within, 2)), (89, (2, iX4_line, 1)), (92, (2, iX5_line, 1)), (93, (2, iX4_slippery, 0)), (96, (2, iX5_slippery, 0)), (97, (2, iX4_better, 1)), (100, (2, iX5_better, 1)), (101, (2, iX4_shorts, 2)), (104, (2, iX5_shorts, 2)), (105, (2, iX4_under, 2)), (108, (2, iX5_under, 2)), (109, (2, iX4_clash, 1)), (112, (2, iX5_clash, 1)), (113, (2, iX4_hand, 3)), (116, (2, iX5_hand, 3)), (117, (2, iX4_whose, 0)), (120, (2, iX5_whose, 0)), (121, (2, iX4_wear, 2)), (124, (2, iX5_wear, 2)), (125, (2, iX4_sheet, 3)), (128, (2, iX5_sheet, 3)), (129, (2, iX4_lose, 1)), (132, (2, iX5_lose, 1)), (133, (2, iX4_put, 4)), (137, (2, iX5_put, 4)), (138, (2, iX4_get, 3)), (141, (2, iX5_get, 3)), (142, (2, iX4_copy, 5)), (146, (2, iX5_copy, 5)), (147, (2, iX4_write, 1)), (150, (2, iX5_write, 1)), (151, (2, iX4_count, 1)), (154, (2, iX5_count, 1)), (155, (2, iX4_digest, 0)), (159, (2, iX5_digest, 0))]
  | _ => []
def q_call (cn idx : Nat) : Option (Nat × qI × Nat) := (q_calls cn).lookup idx
def q_flds (cn : Nat) : List (Nat × (Nat × Nat × Nat)) := match cn with
  | 0 => [(9, (0, 0, 0)), (15, (0, 0, 1)), (25, (0, 0, 2))]
  | 1 => [(9, (0, 1, 0)), (15, (0, 1, 1)), (18, (0, 1, 2)), (21, (0, 1, 3))]
  | 2 => [(13, (0, 2, 0)), (19, (0, 2, 1))]
  | 3 => [(14, (0, 3, 0)), (20, (0, 3, 1)), (24, (0, 3, 2)), (27, (0, 3, 4)), (31, (0, 3, 3)), (42, (1, 2, 1)), (51, (1, 2, 0))]
  | 4 => [(14, (0, 4, 0)), (21, (0, 4, 1)), (28, (0, 4, 2)), (41, (0, 4, 3)), (44, (0, 4, 4)), (47, (0, 4, 6)), (51, (0, 4, 7)), (54, (0, 4, 8)), (63, (0, 4, 9)), (68, (0, 4, 10)), (73, (0, 4, 12)), (76, (0, 4, 13)), (97, (1, 2, 1)), (104, (1, 3, 4)), (133, (1, 0, 2)), (136, (1, 0, 0)), (139, (1, 1, 3)), (152, (0, 4, 5)), (174, (1, 3, 3)), (233, (0, 4, 11)), (236, (1, 0, 1)), (253, (1, 3, 0)), (325, (1, 2, 0))]
  | 5 => [(7, (0, 5, 0)), (13, (0, 5, 1)), (16, (0, 5, 2)), (19, (0, 5, 4)), (22, (0, 5, 6)), (25, (0, 5, 7)), (28, (0, 5, 10)), (31, (0, 5, 12)), (34, (0, 5, 13)), (37, (0, 5, 14)), (40, (0, 5, 15)), (43, (0, 5, 16)), (46, (0, 5, 17)), (49, (0, 5, 18)), (52, (0, 5, 19)), (56, (0, 5, 20)), (59, (0, 5, 21)), (62, (0, 5, 22)), (65, (0, 5, 23)), (68, (0, 5, 8)), (72, (0, 5, 9)), (79, (0, 5, 3)), (86, (0, 5, 5)), (110, (0, 5, 11)), (186, (0, 5, 24))]
  | _ => []
def q_fl (cn idx : Nat) : Option (Nat × Nat × Nat) := (q_flds cn).lookup idx
def q_ldc (cn idx : Nat) : Option Int32 := match cn, idx with
  | 7, 265 => some (1431655765)
  | 7, 266 => some (858993459)
  | 7, 267 => some (252645135)
  | 4, 232 => some (-2147483648)
  | 5, 197 => some (-2147483648)
  | _, _ => none
def q_ldl (cn idx : Nat) : Option Int64 := match cn, idx with
  | 4, 259 => some (17)
  | 4, 323 => some (31)
  | 5, 201 => some (17)
  | 5, 203 => some (31)
  | _, _ => none
def q_wr (ci j : Nat) : Bool := match ci, j with
  | 0, 1 => true
  | 0, 2 => true
  | 1, 3 => true
  | 2, 1 => true
  | 3, 3 => true
  | 3, 4 => true
  | 4, 5 => true
  | 4, 6 => true
  | 4, 7 => true
  | 4, 11 => true
  | 5, 3 => true
  | 5, 5 => true
  | 5, 8 => true
  | 5, 9 => true
  | 5, 11 => true
  | 5, 24 => true
  | _, _ => false
def q_tb : qT := (q_call, q_fl, q_ldc, q_ldl, q_wr)
def q_nM : List (String × Nat × MethodName) := [(RX4, 11, yX2_init), (RX4, 20, yX3_init), (RX3, 11, yX2_init), (RX4, 27, yX1_init), (RX4, 72, yX0_init), (RX4, 87, yX2_hasRoom), (RX4, 91, yX2_append), (RX2, 27, yX4_lay), (RX4, 331, yX3_split), (RX3, 54, yX4_at), (RX3, 62, yX4_isLetter), (RX3, 58, yX4_lay), (RX4, 337, yX1_pointsAt), (RX1, 29, yX4_at), (RX4, 126, yX0_isLost), (RX4, 142, yX1_add), (RX1, 25, yX4_lay), (RX4, 158, yX3_has), (RX3, 34, yX4_isWithin), (RX4, 346, yX3_lettersOf), (RX4, 340, yX3_letterOf), (RX4, 221, yX0_renew), (RX4, 229, yX0_store), (RX0, 28, yX4_lay), (RX4, 239, yX0_hasStretch)]
def q_nF : List (String × Nat × String × String × String) := [(RX3, 51, "PrickedPages$Text", "bytes", "[I"), (RX4, 325, "PrickedPages$Text", "bytes", "[I"), (RX4, 97, "PrickedPages$Text", "length", "I"), (RX3, 42, "PrickedPages$Text", "length", "I"), (RX4, 253, "PrickedPages$WordList", "text", "LPrickedPages$Text;"), (RX4, 174, "PrickedPages$WordList", "many", "I"), (RX4, 104, "PrickedPages$WordList", "faultPlace", "I"), (RX4, 139, "PrickedPages$Slips", "many", "I"), (RX4, 136, "PrickedPages$Sheet", "items", "[I"), (RX4, 236, "PrickedPages$Sheet", "form", "I"), (RX4, 133, "PrickedPages$Sheet", "size", "I")]
def q_NW (U : State) : Prop := (∀ q ∈ q_nF, va_Nw (.fieldLinkNest q.1 q.2.1 q.2.2.1 q.2.2.2.1 q.2.2.2.2 "PrickedPages") U) ∧ (∀ q ∈ q_nM, va_Nw (.methodLinkNest q.1 q.2.1 q.2.2 "PrickedPages") U)
set_option maxRecDepth 100000 in
theorem q_nFw : ∀ q ∈ q_nF, Cond.fieldLinkNest q.1 q.2.1 q.2.2.1 q.2.2.2.1 q.2.2.2.2 "PrickedPages" ∈ lw_tbl := List.forall_mem_cons.mpr ⟨q_lt 29 rfl, List.forall_mem_cons.mpr ⟨q_lt 30 rfl, List.forall_mem_cons.mpr ⟨q_lt 32 rfl, List.forall_mem_cons.mpr ⟨q_lt 33 rfl, List.forall_mem_cons.mpr ⟨q_lt 49 rfl, List.forall_mem_cons.mpr ⟨q_lt 53 rfl, List.forall_mem_cons.mpr ⟨q_lt 55 rfl, List.forall_mem_cons.mpr ⟨q_lt 77 rfl, List.forall_mem_cons.mpr ⟨q_lt 107 rfl, List.forall_mem_cons.mpr ⟨q_lt 109 rfl, List.forall_mem_cons.mpr ⟨q_lt 111 rfl, fun _ h => absurd h List.not_mem_nil⟩⟩⟩⟩⟩⟩⟩⟩⟩⟩⟩
set_option maxRecDepth 100000 in
theorem q_nMw : ∀ q ∈ q_nM, Cond.methodLinkNest q.1 q.2.1 q.2.2 "PrickedPages" ∈ lw_tbl := List.forall_mem_cons.mpr ⟨q_lt 21 rfl, List.forall_mem_cons.mpr ⟨q_lt 42 rfl, List.forall_mem_cons.mpr ⟨q_lt 47 rfl, List.forall_mem_cons.mpr ⟨q_lt 69 rfl, List.forall_mem_cons.mpr ⟨q_lt 102 rfl, List.forall_mem_cons.mpr ⟨q_lt 173 rfl, List.forall_mem_cons.mpr ⟨q_lt 177 rfl, List.forall_mem_cons.mpr ⟨q_lt 182 rfl, List.forall_mem_cons.mpr ⟨q_lt 189 rfl, List.forall_mem_cons.mpr ⟨q_lt 197 rfl, List.forall_mem_cons.mpr ⟨q_lt 200 rfl, List.forall_mem_cons.mpr ⟨q_lt 204 rfl, List.forall_mem_cons.mpr ⟨q_lt 219 rfl, List.forall_mem_cons.mpr ⟨q_lt 223 rfl, List.forall_mem_cons.mpr ⟨q_lt 248 rfl, List.forall_mem_cons.mpr ⟨q_lt 260 rfl, List.forall_mem_cons.mpr ⟨q_lt 264 rfl, List.forall_mem_cons.mpr ⟨q_lt 312 rfl, List.forall_mem_cons.mpr ⟨q_lt 316 rfl, List.forall_mem_cons.mpr ⟨q_lt 329 rfl, List.forall_mem_cons.mpr ⟨q_lt 337 rfl, List.forall_mem_cons.mpr ⟨q_lt 478 rfl, List.forall_mem_cons.mpr ⟨q_lt 494 rfl, List.forall_mem_cons.mpr ⟨q_lt 498 rfl, List.forall_mem_cons.mpr ⟨q_lt 508 rfl, fun _ h => absurd h List.not_mem_nil⟩⟩⟩⟩⟩⟩⟩⟩⟩⟩⟩⟩⟩⟩⟩⟩⟩⟩⟩⟩⟩⟩⟩⟩⟩
theorem q_NW_of {a : Array Value} {s : State} (h : ∀ w ∈ lw_tbl, w.before a s = true) : q_NW s := ⟨fun q hq => va_Nw.of rfl (h _ (q_nFw q hq)), fun q hq => va_Nw.of rfl (h _ (q_nMw q hq))⟩
theorem q_NW_warm {s U : State} (hW : s.WarmedH U.vm) (h : q_NW s) : q_NW U := ⟨fun q hq => va_Nw.warmF hW (h.1 q hq), fun q hq => va_Nw.warmM hW (h.2 q hq)⟩
theorem q_NW_same {s U : State} (e : s.vm = U.vm) (h : q_NW s) : q_NW U := ⟨fun q hq => va_Nw.same rfl e (h.1 q hq), fun q hq => va_Nw.same rfl e (h.2 q hq)⟩
def q_okm (I : qI) (n : Nat) : Prop := Cond.code (mY I) (mB I) (mL I) (mR I) ∈ q_tbl ∧ Cond.initialized (mY I).cls ∈ q_tbl ∧ ((mY I).cls ≠ "java/lang/invoke/MethodHandle" ∧ (mY I).cls ≠ "java/lang/invoke/VarHandle" ∧ (parseMethodDescriptor (mY I).desc).map (fun d => d.parameters.length) = some n) ∧ plainName (mY I).cls = true ∧ (mY I).cls = q_nm (mC I)
def q_oki (I : qI) : Prop := Cond.instanceMethod (mY I) ∈ q_tbl ∧ Cond.selects (mY I).cls (mY I) (mY I) ∈ q_tbl ∧ ∃ T N, q_cl[mC I]? = some ((mY I).cls, T, N)
set_option maxRecDepth 100000 in
theorem m_X0_isLost : q_okm iX0_isLost 0 := ⟨q_t 251 rfl rfl, q_t 7 rfl rfl, ⟨by decide +kernel, by decide +kernel, by decide +kernel⟩, by decide +kernel, rfl⟩
set_option maxRecDepth 100000 in
theorem k_X0_isLost : q_oki iX0_isLost := ⟨q_t 250 rfl rfl, q_s 11 rfl rfl, ⟨_, _, rfl⟩⟩
set_option maxRecDepth 100000 in
theorem m_X0_renew : q_okm iX0_renew 2 := ⟨q_t 481 rfl rfl, q_t 7 rfl rfl, ⟨by decide +kernel, by decide +kernel, by decide +kernel⟩, by decide +kernel, rfl⟩
set_option maxRecDepth 100000 in
theorem k_X0_renew : q_oki iX0_renew := ⟨q_t 480 rfl rfl, q_s 39 rfl rfl, ⟨_, _, rfl⟩⟩
set_option maxRecDepth 100000 in
theorem m_X0_hasStretch : q_okm iX0_hasStretch 2 := ⟨q_t 511 rfl rfl, q_t 7 rfl rfl, ⟨by decide +kernel, by decide +kernel, by decide +kernel⟩, by decide +kernel, rfl⟩
set_option maxRecDepth 100000 in
theorem k_X0_hasStretch : q_oki iX0_hasStretch := ⟨q_t 510 rfl rfl, q_s 41 rfl rfl, ⟨_, _, rfl⟩⟩
set_option maxRecDepth 100000 in
theorem m_X0_store : q_okm iX0_store 2 := ⟨q_t 497 rfl rfl, q_t 7 rfl rfl, ⟨by decide +kernel, by decide +kernel, by decide +kernel⟩, by decide +kernel, rfl⟩
set_option maxRecDepth 100000 in
theorem k_X0_store : q_oki iX0_store := ⟨q_t 496 rfl rfl, q_s 40 rfl rfl, ⟨_, _, rfl⟩⟩
set_option maxRecDepth 100000 in
theorem m_X1_add : q_okm iX1_add 3 := ⟨q_t 263 rfl rfl, q_t 5 rfl rfl, ⟨by decide +kernel, by decide +kernel, by decide +kernel⟩, by decide +kernel, rfl⟩
set_option maxRecDepth 100000 in
theorem k_X1_add : q_oki iX1_add := ⟨q_t 262 rfl rfl, q_s 13 rfl rfl, ⟨_, _, rfl⟩⟩
set_option maxRecDepth 100000 in
theorem m_X1_pointsAt : q_okm iX1_pointsAt 2 := ⟨q_t 222 rfl rfl, q_t 5 rfl rfl, ⟨by decide +kernel, by decide +kernel, by decide +kernel⟩, by decide +kernel, rfl⟩
set_option maxRecDepth 100000 in
theorem k_X1_pointsAt : q_oki iX1_pointsAt := ⟨q_t 221 rfl rfl, q_s 9 rfl rfl, ⟨_, _, rfl⟩⟩
set_option maxRecDepth 100000 in
theorem m_X2_hasRoom : q_okm iX2_hasRoom 0 := ⟨q_t 176 rfl rfl, q_t 2 rfl rfl, ⟨by decide +kernel, by decide +kernel, by decide +kernel⟩, by decide +kernel, rfl⟩
set_option maxRecDepth 100000 in
theorem k_X2_hasRoom : q_oki iX2_hasRoom := ⟨q_t 175 rfl rfl, q_s 1 rfl rfl, ⟨_, _, rfl⟩⟩
set_option maxRecDepth 100000 in
theorem m_X2_append : q_okm iX2_append 1 := ⟨q_t 180 rfl rfl, q_t 2 rfl rfl, ⟨by decide +kernel, by decide +kernel, by decide +kernel⟩, by decide +kernel, rfl⟩
set_option maxRecDepth 100000 in
theorem k_X2_append : q_oki iX2_append := ⟨q_t 179 rfl rfl, q_s 2 rfl rfl, ⟨_, _, rfl⟩⟩
set_option maxRecDepth 100000 in
theorem m_X3_has : q_okm iX3_has 1 := ⟨q_t 315 rfl rfl, q_t 4 rfl rfl, ⟨by decide +kernel, by decide +kernel, by decide +kernel⟩, by decide +kernel, rfl⟩
set_option maxRecDepth 100000 in
theorem k_X3_has : q_oki iX3_has := ⟨q_t 314 rfl rfl, q_s 16 rfl rfl, ⟨_, _, rfl⟩⟩
set_option maxRecDepth 100000 in
theorem m_X3_lettersOf : q_okm iX3_lettersOf 1 := ⟨q_t 332 rfl rfl, q_t 4 rfl rfl, ⟨by decide +kernel, by decide +kernel, by decide +kernel⟩, by decide +kernel, rfl⟩
set_option maxRecDepth 100000 in
theorem k_X3_lettersOf : q_oki iX3_lettersOf := ⟨q_t 331 rfl rfl, q_s 20 rfl rfl, ⟨_, _, rfl⟩⟩
set_option maxRecDepth 100000 in
theorem m_X3_letterOf : q_okm iX3_letterOf 2 := ⟨q_t 340 rfl rfl, q_t 4 rfl rfl, ⟨by decide +kernel, by decide +kernel, by decide +kernel⟩, by decide +kernel, rfl⟩
set_option maxRecDepth 100000 in
theorem k_X3_letterOf : q_oki iX3_letterOf := ⟨q_t 339 rfl rfl, q_s 22 rfl rfl, ⟨_, _, rfl⟩⟩
set_option maxRecDepth 100000 in
theorem m_X3_split : q_okm iX3_split 0 := ⟨q_t 192 rfl rfl, q_t 4 rfl rfl, ⟨by decide +kernel, by decide +kernel, by decide +kernel⟩, by decide +kernel, rfl⟩
set_option maxRecDepth 100000 in
theorem k_X3_split : q_oki iX3_split := ⟨q_t 191 rfl rfl, q_s 4 rfl rfl, ⟨_, _, rfl⟩⟩
set_option maxRecDepth 100000 in
theorem m_X3_firstFault : q_okm iX3_firstFault 0 := ⟨q_t 196 rfl rfl, q_t 4 rfl rfl, ⟨by decide +kernel, by decide +kernel, by decide +kernel⟩, by decide +kernel, rfl⟩
set_option maxRecDepth 100000 in
theorem k_X3_firstFault : q_oki iX3_firstFault := ⟨q_t 195 rfl rfl, q_s 5 rfl rfl, ⟨_, _, rfl⟩⟩
set_option maxRecDepth 100000 in
theorem m_X4_type : q_okm iX4_type 2 := ⟨q_t 165 rfl rfl, q_t 1 rfl rfl, ⟨by decide +kernel, by decide +kernel, by decide +kernel⟩, by decide +kernel, rfl⟩
set_option maxRecDepth 100000 in
theorem k_X4_type : q_oki iX4_type := ⟨q_t 163 rfl rfl, q_t 164 rfl rfl, ⟨_, _, rfl⟩⟩
set_option maxRecDepth 100000 in
theorem m_X4_wipe : q_okm iX4_wipe 1 := ⟨q_t 228 rfl rfl, q_t 1 rfl rfl, ⟨by decide +kernel, by decide +kernel, by decide +kernel⟩, by decide +kernel, rfl⟩
set_option maxRecDepth 100000 in
theorem k_X4_wipe : q_oki iX4_wipe := ⟨q_t 226 rfl rfl, q_t 227 rfl rfl, ⟨_, _, rfl⟩⟩
set_option maxRecDepth 100000 in
theorem m_X4_fault : q_okm iX4_fault 1 := ⟨q_t 232 rfl rfl, q_t 1 rfl rfl, ⟨by decide +kernel, by decide +kernel, by decide +kernel⟩, by decide +kernel, rfl⟩
set_option maxRecDepth 100000 in
theorem k_X4_fault : q_oki iX4_fault := ⟨q_t 230 rfl rfl, q_t 231 rfl rfl, ⟨_, _, rfl⟩⟩
set_option maxRecDepth 100000 in
theorem m_X4_sign : q_okm iX4_sign 2 := ⟨q_t 236 rfl rfl, q_t 1 rfl rfl, ⟨by decide +kernel, by decide +kernel, by decide +kernel⟩, by decide +kernel, rfl⟩
set_option maxRecDepth 100000 in
theorem k_X4_sign : q_oki iX4_sign := ⟨q_t 234 rfl rfl, q_t 235 rfl rfl, ⟨_, _, rfl⟩⟩
set_option maxRecDepth 100000 in
theorem m_X4_read : q_okm iX4_read 1 := ⟨q_t 243 rfl rfl, q_t 1 rfl rfl, ⟨by decide +kernel, by decide +kernel, by decide +kernel⟩, by decide +kernel, rfl⟩
set_option maxRecDepth 100000 in
theorem k_X4_read : q_oki iX4_read := ⟨q_t 241 rfl rfl, q_t 242 rfl rfl, ⟨_, _, rfl⟩⟩
set_option maxRecDepth 100000 in
theorem m_X4_slip : q_okm iX4_slip 3 := ⟨q_t 259 rfl rfl, q_t 1 rfl rfl, ⟨by decide +kernel, by decide +kernel, by decide +kernel⟩, by decide +kernel, rfl⟩
set_option maxRecDepth 100000 in
theorem k_X4_slip : q_oki iX4_slip := ⟨q_t 257 rfl rfl, q_t 258 rfl rfl, ⟨_, _, rfl⟩⟩
set_option maxRecDepth 100000 in
theorem m_X4_undo : q_okm iX4_undo 0 := ⟨q_t 268 rfl rfl, q_t 1 rfl rfl, ⟨by decide +kernel, by decide +kernel, by decide +kernel⟩, by decide +kernel, rfl⟩
set_option maxRecDepth 100000 in
theorem k_X4_undo : q_oki iX4_undo := ⟨q_t 266 rfl rfl, q_t 267 rfl rfl, ⟨_, _, rfl⟩⟩
set_option maxRecDepth 100000 in
theorem m_X4_set : q_okm iX4_set 2 := ⟨q_t 272 rfl rfl, q_t 1 rfl rfl, ⟨by decide +kernel, by decide +kernel, by decide +kernel⟩, by decide +kernel, rfl⟩
set_option maxRecDepth 100000 in
theorem k_X4_set : q_oki iX4_set := ⟨q_t 270 rfl rfl, q_t 271 rfl rfl, ⟨_, _, rfl⟩⟩
set_option maxRecDepth 100000 in
theorem m_X4_often : q_okm iX4_often 2 := ⟨q_t 276 rfl rfl, q_t 1 rfl rfl, ⟨by decide +kernel, by decide +kernel, by decide +kernel⟩, by decide +kernel, rfl⟩
set_option maxRecDepth 100000 in
theorem k_X4_often : q_oki iX4_often := ⟨q_t 274 rfl rfl, q_t 275 rfl rfl, ⟨_, _, rfl⟩⟩
set_option maxRecDepth 100000 in
theorem m_X4_cell : q_okm iX4_cell 1 := ⟨q_t 280 rfl rfl, q_t 1 rfl rfl, ⟨by decide +kernel, by decide +kernel, by decide +kernel⟩, by decide +kernel, rfl⟩
set_option maxRecDepth 100000 in
theorem k_X4_cell : q_oki iX4_cell := ⟨q_t 278 rfl rfl, q_t 279 rfl rfl, ⟨_, _, rfl⟩⟩
set_option maxRecDepth 100000 in
theorem m_X4_letter : q_okm iX4_letter 1 := ⟨q_t 288 rfl rfl, q_t 1 rfl rfl, ⟨by decide +kernel, by decide +kernel, by decide +kernel⟩, by decide +kernel, rfl⟩
set_option maxRecDepth 100000 in
theorem k_X4_letter : q_oki iX4_letter := ⟨q_t 286 rfl rfl, q_t 287 rfl rfl, ⟨_, _, rfl⟩⟩
set_option maxRecDepth 100000 in
theorem m_X4_judged : q_okm iX4_judged 0 := ⟨q_t 296 rfl rfl, q_t 1 rfl rfl, ⟨by decide +kernel, by decide +kernel, by decide +kernel⟩, by decide +kernel, rfl⟩
set_option maxRecDepth 100000 in
theorem k_X4_judged : q_oki iX4_judged := ⟨q_t 294 rfl rfl, q_t 295 rfl rfl, ⟨_, _, rfl⟩⟩
set_option maxRecDepth 100000 in
theorem m_X4_wrong : q_okm iX4_wrong 1 := ⟨q_t 300 rfl rfl, q_t 1 rfl rfl, ⟨by decide +kernel, by decide +kernel, by decide +kernel⟩, by decide +kernel, rfl⟩
set_option maxRecDepth 100000 in
theorem k_X4_wrong : q_oki iX4_wrong := ⟨q_t 298 rfl rfl, q_t 299 rfl rfl, ⟨_, _, rfl⟩⟩
set_option maxRecDepth 100000 in
theorem m_X4_mirrored : q_okm iX4_mirrored 1 := ⟨q_t 307 rfl rfl, q_t 1 rfl rfl, ⟨by decide +kernel, by decide +kernel, by decide +kernel⟩, by decide +kernel, rfl⟩
set_option maxRecDepth 100000 in
theorem k_X4_mirrored : q_oki iX4_mirrored := ⟨q_t 305 rfl rfl, q_t 306 rfl rfl, ⟨_, _, rfl⟩⟩
set_option maxRecDepth 100000 in
theorem m_X4_both : q_okm iX4_both 1 := ⟨q_t 311 rfl rfl, q_t 1 rfl rfl, ⟨by decide +kernel, by decide +kernel, by decide +kernel⟩, by decide +kernel, rfl⟩
set_option maxRecDepth 100000 in
theorem k_X4_both : q_oki iX4_both := ⟨q_t 309 rfl rfl, q_t 310 rfl rfl, ⟨_, _, rfl⟩⟩
set_option maxRecDepth 100000 in
theorem m_X4_fits : q_okm iX4_fits 2 := ⟨q_t 344 rfl rfl, q_t 1 rfl rfl, ⟨by decide +kernel, by decide +kernel, by decide +kernel⟩, by decide +kernel, rfl⟩
set_option maxRecDepth 100000 in
theorem k_X4_fits : q_oki iX4_fits := ⟨q_t 342 rfl rfl, q_t 343 rfl rfl, ⟨_, _, rfl⟩⟩
set_option maxRecDepth 100000 in
theorem m_X4_meant : q_okm iX4_meant 2 := ⟨q_t 362 rfl rfl, q_t 1 rfl rfl, ⟨by decide +kernel, by decide +kernel, by decide +kernel⟩, by decide +kernel, rfl⟩
set_option maxRecDepth 100000 in
theorem k_X4_meant : q_oki iX4_meant := ⟨q_t 360 rfl rfl, q_t 361 rfl rfl, ⟨_, _, rfl⟩⟩
set_option maxRecDepth 100000 in
theorem m_X4_within : q_okm iX4_within 2 := ⟨q_t 370 rfl rfl, q_t 1 rfl rfl, ⟨by decide +kernel, by decide +kernel, by decide +kernel⟩, by decide +kernel, rfl⟩
set_option maxRecDepth 100000 in
theorem k_X4_within : q_oki iX4_within := ⟨q_t 368 rfl rfl, q_t 369 rfl rfl, ⟨_, _, rfl⟩⟩
set_option maxRecDepth 100000 in
theorem m_X4_line : q_okm iX4_line 1 := ⟨q_t 374 rfl rfl, q_t 1 rfl rfl, ⟨by decide +kernel, by decide +kernel, by decide +kernel⟩, by decide +kernel, rfl⟩
set_option maxRecDepth 100000 in
theorem k_X4_line : q_oki iX4_line := ⟨q_t 372 rfl rfl, q_t 373 rfl rfl, ⟨_, _, rfl⟩⟩
set_option maxRecDepth 100000 in
theorem m_X4_slippery : q_okm iX4_slippery 0 := ⟨q_t 389 rfl rfl, q_t 1 rfl rfl, ⟨by decide +kernel, by decide +kernel, by decide +kernel⟩, by decide +kernel, rfl⟩
set_option maxRecDepth 100000 in
theorem k_X4_slippery : q_oki iX4_slippery := ⟨q_t 387 rfl rfl, q_t 388 rfl rfl, ⟨_, _, rfl⟩⟩
set_option maxRecDepth 100000 in
theorem m_X4_better : q_okm iX4_better 1 := ⟨q_t 396 rfl rfl, q_t 1 rfl rfl, ⟨by decide +kernel, by decide +kernel, by decide +kernel⟩, by decide +kernel, rfl⟩
set_option maxRecDepth 100000 in
theorem k_X4_better : q_oki iX4_better := ⟨q_t 394 rfl rfl, q_t 395 rfl rfl, ⟨_, _, rfl⟩⟩
set_option maxRecDepth 100000 in
theorem m_X4_shorts : q_okm iX4_shorts 2 := ⟨q_t 404 rfl rfl, q_t 1 rfl rfl, ⟨by decide +kernel, by decide +kernel, by decide +kernel⟩, by decide +kernel, rfl⟩
set_option maxRecDepth 100000 in
theorem k_X4_shorts : q_oki iX4_shorts := ⟨q_t 402 rfl rfl, q_t 403 rfl rfl, ⟨_, _, rfl⟩⟩
set_option maxRecDepth 100000 in
theorem m_X4_under : q_okm iX4_under 2 := ⟨q_t 424 rfl rfl, q_t 1 rfl rfl, ⟨by decide +kernel, by decide +kernel, by decide +kernel⟩, by decide +kernel, rfl⟩
set_option maxRecDepth 100000 in
theorem k_X4_under : q_oki iX4_under := ⟨q_t 422 rfl rfl, q_t 423 rfl rfl, ⟨_, _, rfl⟩⟩
set_option maxRecDepth 100000 in
theorem m_X4_clash : q_okm iX4_clash 1 := ⟨q_t 432 rfl rfl, q_t 1 rfl rfl, ⟨by decide +kernel, by decide +kernel, by decide +kernel⟩, by decide +kernel, rfl⟩
set_option maxRecDepth 100000 in
theorem k_X4_clash : q_oki iX4_clash := ⟨q_t 430 rfl rfl, q_t 431 rfl rfl, ⟨_, _, rfl⟩⟩
set_option maxRecDepth 100000 in
theorem m_X4_hand : q_okm iX4_hand 3 := ⟨q_t 440 rfl rfl, q_t 1 rfl rfl, ⟨by decide +kernel, by decide +kernel, by decide +kernel⟩, by decide +kernel, rfl⟩
set_option maxRecDepth 100000 in
theorem k_X4_hand : q_oki iX4_hand := ⟨q_t 438 rfl rfl, q_t 439 rfl rfl, ⟨_, _, rfl⟩⟩
set_option maxRecDepth 100000 in
theorem m_X4_whose : q_okm iX4_whose 0 := ⟨q_t 444 rfl rfl, q_t 1 rfl rfl, ⟨by decide +kernel, by decide +kernel, by decide +kernel⟩, by decide +kernel, rfl⟩
set_option maxRecDepth 100000 in
theorem k_X4_whose : q_oki iX4_whose := ⟨q_t 442 rfl rfl, q_t 443 rfl rfl, ⟨_, _, rfl⟩⟩
set_option maxRecDepth 100000 in
theorem m_X4_wear : q_okm iX4_wear 2 := ⟨q_t 456 rfl rfl, q_t 1 rfl rfl, ⟨by decide +kernel, by decide +kernel, by decide +kernel⟩, by decide +kernel, rfl⟩
set_option maxRecDepth 100000 in
theorem k_X4_wear : q_oki iX4_wear := ⟨q_t 454 rfl rfl, q_t 455 rfl rfl, ⟨_, _, rfl⟩⟩
set_option maxRecDepth 100000 in
theorem m_X4_sheet : q_okm iX4_sheet 3 := ⟨q_t 474 rfl rfl, q_t 1 rfl rfl, ⟨by decide +kernel, by decide +kernel, by decide +kernel⟩, by decide +kernel, rfl⟩
set_option maxRecDepth 100000 in
theorem k_X4_sheet : q_oki iX4_sheet := ⟨q_t 472 rfl rfl, q_t 473 rfl rfl, ⟨_, _, rfl⟩⟩
set_option maxRecDepth 100000 in
theorem m_X4_lose : q_okm iX4_lose 1 := ⟨q_t 486 rfl rfl, q_t 1 rfl rfl, ⟨by decide +kernel, by decide +kernel, by decide +kernel⟩, by decide +kernel, rfl⟩
set_option maxRecDepth 100000 in
theorem k_X4_lose : q_oki iX4_lose := ⟨q_t 484 rfl rfl, q_t 485 rfl rfl, ⟨_, _, rfl⟩⟩
set_option maxRecDepth 100000 in
theorem m_X4_put : q_okm iX4_put 4 := ⟨q_t 490 rfl rfl, q_t 1 rfl rfl, ⟨by decide +kernel, by decide +kernel, by decide +kernel⟩, by decide +kernel, rfl⟩
set_option maxRecDepth 100000 in
theorem k_X4_put : q_oki iX4_put := ⟨q_t 488 rfl rfl, q_t 489 rfl rfl, ⟨_, _, rfl⟩⟩
set_option maxRecDepth 100000 in
theorem m_X4_get : q_okm iX4_get 3 := ⟨q_t 502 rfl rfl, q_t 1 rfl rfl, ⟨by decide +kernel, by decide +kernel, by decide +kernel⟩, by decide +kernel, rfl⟩
set_option maxRecDepth 100000 in
theorem k_X4_get : q_oki iX4_get := ⟨q_t 500 rfl rfl, q_t 501 rfl rfl, ⟨_, _, rfl⟩⟩
set_option maxRecDepth 100000 in
theorem m_X4_copy : q_okm iX4_copy 5 := ⟨q_t 507 rfl rfl, q_t 1 rfl rfl, ⟨by decide +kernel, by decide +kernel, by decide +kernel⟩, by decide +kernel, rfl⟩
set_option maxRecDepth 100000 in
theorem k_X4_copy : q_oki iX4_copy := ⟨q_t 505 rfl rfl, q_t 506 rfl rfl, ⟨_, _, rfl⟩⟩
set_option maxRecDepth 100000 in
theorem m_X4_write : q_okm iX4_write 1 := ⟨q_t 518 rfl rfl, q_t 1 rfl rfl, ⟨by decide +kernel, by decide +kernel, by decide +kernel⟩, by decide +kernel, rfl⟩
set_option maxRecDepth 100000 in
theorem k_X4_write : q_oki iX4_write := ⟨q_t 516 rfl rfl, q_t 517 rfl rfl, ⟨_, _, rfl⟩⟩
set_option maxRecDepth 100000 in
theorem m_X4_count : q_okm iX4_count 1 := ⟨q_t 522 rfl rfl, q_t 1 rfl rfl, ⟨by decide +kernel, by decide +kernel, by decide +kernel⟩, by decide +kernel, rfl⟩
set_option maxRecDepth 100000 in
theorem k_X4_count : q_oki iX4_count := ⟨q_t 520 rfl rfl, q_t 521 rfl rfl, ⟨_, _, rfl⟩⟩
set_option maxRecDepth 100000 in
theorem m_X4_digest : q_okm iX4_digest 0 := ⟨q_t 530 rfl rfl, q_t 1 rfl rfl, ⟨by decide +kernel, by decide +kernel, by decide +kernel⟩, by decide +kernel, rfl⟩
set_option maxRecDepth 100000 in
theorem k_X4_digest : q_oki iX4_digest := ⟨q_t 528 rfl rfl, q_t 529 rfl rfl, ⟨_, _, rfl⟩⟩
set_option maxRecDepth 100000 in
theorem m_X4_mixCells : q_okm iX4_mixCells 1 := ⟨q_t 542 rfl rfl, q_t 1 rfl rfl, ⟨by decide +kernel, by decide +kernel, by decide +kernel⟩, by decide +kernel, rfl⟩
set_option maxRecDepth 100000 in
theorem k_X4_mixCells : q_oki iX4_mixCells := ⟨q_t 541 rfl rfl, q_s 43 rfl rfl, ⟨_, _, rfl⟩⟩
set_option maxRecDepth 100000 in
theorem m_X4_mixWords : q_okm iX4_mixWords 1 := ⟨q_t 551 rfl rfl, q_t 1 rfl rfl, ⟨by decide +kernel, by decide +kernel, by decide +kernel⟩, by decide +kernel, rfl⟩
set_option maxRecDepth 100000 in
theorem k_X4_mixWords : q_oki iX4_mixWords := ⟨q_t 550 rfl rfl, q_s 44 rfl rfl, ⟨_, _, rfl⟩⟩
set_option maxRecDepth 100000 in
theorem m_X4_mix : q_okm iX4_mix 2 := ⟨q_t 535 rfl rfl, q_t 1 rfl rfl, ⟨by decide +kernel, by decide +kernel, by decide +kernel⟩, by decide +kernel, rfl⟩
set_option maxRecDepth 100000 in
theorem k_X4_mix : Cond.static (mY iX4_mix) ∈ q_tbl := q_t 534 rfl rfl
set_option maxRecDepth 100000 in
theorem m_X4_at : q_okm iX4_at 2 := ⟨q_t 199 rfl rfl, q_t 1 rfl rfl, ⟨by decide +kernel, by decide +kernel, by decide +kernel⟩, by decide +kernel, rfl⟩
set_option maxRecDepth 100000 in
theorem k_X4_at : Cond.static (mY iX4_at) ∈ q_tbl := q_t 198 rfl rfl
set_option maxRecDepth 100000 in
theorem m_X4_lay : q_okm iX4_lay 3 := ⟨q_t 184 rfl rfl, q_t 1 rfl rfl, ⟨by decide +kernel, by decide +kernel, by decide +kernel⟩, by decide +kernel, rfl⟩
set_option maxRecDepth 100000 in
theorem k_X4_lay : Cond.static (mY iX4_lay) ∈ q_tbl := q_t 183 rfl rfl
set_option maxRecDepth 100000 in
theorem m_X4_isWithin : q_okm iX4_isWithin 3 := ⟨q_t 172 rfl rfl, q_t 1 rfl rfl, ⟨by decide +kernel, by decide +kernel, by decide +kernel⟩, by decide +kernel, rfl⟩
set_option maxRecDepth 100000 in
theorem k_X4_isWithin : Cond.static (mY iX4_isWithin) ∈ q_tbl := q_t 171 rfl rfl
set_option maxRecDepth 100000 in
theorem m_X4_isSign : q_okm iX4_isSign 1 := ⟨q_t 239 rfl rfl, q_t 1 rfl rfl, ⟨by decide +kernel, by decide +kernel, by decide +kernel⟩, by decide +kernel, rfl⟩
set_option maxRecDepth 100000 in
theorem k_X4_isSign : Cond.static (mY iX4_isSign) ∈ q_tbl := q_t 238 rfl rfl
set_option maxRecDepth 100000 in
theorem m_X4_isForm : q_okm iX4_isForm 1 := ⟨q_t 477 rfl rfl, q_t 1 rfl rfl, ⟨by decide +kernel, by decide +kernel, by decide +kernel⟩, by decide +kernel, rfl⟩
set_option maxRecDepth 100000 in
theorem k_X4_isForm : Cond.static (mY iX4_isForm) ∈ q_tbl := q_t 476 rfl rfl
set_option maxRecDepth 100000 in
theorem m_X4_isCell : q_okm iX4_isCell 1 := ⟨q_t 284 rfl rfl, q_t 1 rfl rfl, ⟨by decide +kernel, by decide +kernel, by decide +kernel⟩, by decide +kernel, rfl⟩
set_option maxRecDepth 100000 in
theorem k_X4_isCell : q_oki iX4_isCell := ⟨q_t 283 rfl rfl, q_s 14 rfl rfl, ⟨_, _, rfl⟩⟩
set_option maxRecDepth 100000 in
theorem m_X4_pointsOf : q_okm iX4_pointsOf 2 := ⟨q_t 470 rfl rfl, q_t 1 rfl rfl, ⟨by decide +kernel, by decide +kernel, by decide +kernel⟩, by decide +kernel, rfl⟩
set_option maxRecDepth 100000 in
theorem k_X4_pointsOf : Cond.static (mY iX4_pointsOf) ∈ q_tbl := q_t 469 rfl rfl
set_option maxRecDepth 100000 in
theorem m_X4_textAt : q_okm iX4_textAt 1 := ⟨q_t 169 rfl rfl, q_t 1 rfl rfl, ⟨by decide +kernel, by decide +kernel, by decide +kernel⟩, by decide +kernel, rfl⟩
set_option maxRecDepth 100000 in
theorem k_X4_textAt : q_oki iX4_textAt := ⟨q_t 168 rfl rfl, q_s 0 rfl rfl, ⟨_, _, rfl⟩⟩
set_option maxRecDepth 100000 in
theorem m_X4_pageFault : q_okm iX4_pageFault 0 := ⟨q_t 212 rfl rfl, q_t 1 rfl rfl, ⟨by decide +kernel, by decide +kernel, by decide +kernel⟩, by decide +kernel, rfl⟩
set_option maxRecDepth 100000 in
theorem k_X4_pageFault : q_oki iX4_pageFault := ⟨q_t 211 rfl rfl, q_s 7 rfl rfl, ⟨_, _, rfl⟩⟩
set_option maxRecDepth 100000 in
theorem m_X4_isLetter : q_okm iX4_isLetter 1 := ⟨q_t 202 rfl rfl, q_t 1 rfl rfl, ⟨by decide +kernel, by decide +kernel, by decide +kernel⟩, by decide +kernel, rfl⟩
set_option maxRecDepth 100000 in
theorem k_X4_isLetter : Cond.static (mY iX4_isLetter) ∈ q_tbl := q_t 201 rfl rfl
set_option maxRecDepth 100000 in
theorem m_X4_layTexts : q_okm iX4_layTexts 0 := ⟨q_t 188 rfl rfl, q_t 1 rfl rfl, ⟨by decide +kernel, by decide +kernel, by decide +kernel⟩, by decide +kernel, rfl⟩
set_option maxRecDepth 100000 in
theorem k_X4_layTexts : q_oki iX4_layTexts := ⟨q_t 187 rfl rfl, q_s 3 rfl rfl, ⟨_, _, rfl⟩⟩
set_option maxRecDepth 100000 in
theorem m_X4_layCells : q_okm iX4_layCells 0 := ⟨q_t 208 rfl rfl, q_t 1 rfl rfl, ⟨by decide +kernel, by decide +kernel, by decide +kernel⟩, by decide +kernel, rfl⟩
set_option maxRecDepth 100000 in
theorem k_X4_layCells : q_oki iX4_layCells := ⟨q_t 207 rfl rfl, q_s 6 rfl rfl, ⟨_, _, rfl⟩⟩
set_option maxRecDepth 100000 in
theorem m_X4_printedAt : q_okm iX4_printedAt 1 := ⟨q_t 218 rfl rfl, q_t 1 rfl rfl, ⟨by decide +kernel, by decide +kernel, by decide +kernel⟩, by decide +kernel, rfl⟩
set_option maxRecDepth 100000 in
theorem k_X4_printedAt : q_oki iX4_printedAt := ⟨q_t 217 rfl rfl, q_s 8 rfl rfl, ⟨_, _, rfl⟩⟩
set_option maxRecDepth 100000 in
theorem m_X4_readingOf : q_okm iX4_readingOf 1 := ⟨q_t 292 rfl rfl, q_t 1 rfl rfl, ⟨by decide +kernel, by decide +kernel, by decide +kernel⟩, by decide +kernel, rfl⟩
set_option maxRecDepth 100000 in
theorem k_X4_readingOf : q_oki iX4_readingOf := ⟨q_t 291 rfl rfl, q_s 15 rfl rfl, ⟨_, _, rfl⟩⟩
set_option maxRecDepth 100000 in
theorem m_X4_swapColumns : q_okm iX4_swapColumns 1 := ⟨q_t 303 rfl rfl, q_t 1 rfl rfl, ⟨by decide +kernel, by decide +kernel, by decide +kernel⟩, by decide +kernel, rfl⟩
set_option maxRecDepth 100000 in
theorem k_X4_swapColumns : Cond.static (mY iX4_swapColumns) ∈ q_tbl := q_t 302 rfl rfl
set_option maxRecDepth 100000 in
theorem m_X4_cellsOfLetters : q_okm iX4_cellsOfLetters 0 := ⟨q_t 526 rfl rfl, q_t 1 rfl rfl, ⟨by decide +kernel, by decide +kernel, by decide +kernel⟩, by decide +kernel, rfl⟩
set_option maxRecDepth 100000 in
theorem k_X4_cellsOfLetters : q_oki iX4_cellsOfLetters := ⟨q_t 525 rfl rfl, q_s 42 rfl rfl, ⟨_, _, rfl⟩⟩
set_option maxRecDepth 100000 in
theorem m_X4_signOf : q_okm iX4_signOf 2 := ⟨q_t 336 rfl rfl, q_t 1 rfl rfl, ⟨by decide +kernel, by decide +kernel, by decide +kernel⟩, by decide +kernel, rfl⟩
set_option maxRecDepth 100000 in
theorem k_X4_signOf : q_oki iX4_signOf := ⟨q_t 335 rfl rfl, q_s 21 rfl rfl, ⟨_, _, rfl⟩⟩
set_option maxRecDepth 100000 in
theorem m_X4_wordsBothWays : q_okm iX4_wordsBothWays 0 := ⟨q_t 320 rfl rfl, q_t 1 rfl rfl, ⟨by decide +kernel, by decide +kernel, by decide +kernel⟩, by decide +kernel, rfl⟩
set_option maxRecDepth 100000 in
theorem k_X4_wordsBothWays : q_oki iX4_wordsBothWays := ⟨q_t 319 rfl rfl, q_s 17 rfl rfl, ⟨_, _, rfl⟩⟩
set_option maxRecDepth 100000 in
theorem m_X4_wordFromBehind : q_okm iX4_wordFromBehind 1 := ⟨q_t 324 rfl rfl, q_t 1 rfl rfl, ⟨by decide +kernel, by decide +kernel, by decide +kernel⟩, by decide +kernel, rfl⟩
set_option maxRecDepth 100000 in
theorem k_X4_wordFromBehind : q_oki iX4_wordFromBehind := ⟨q_t 323 rfl rfl, q_s 18 rfl rfl, ⟨_, _, rfl⟩⟩
set_option maxRecDepth 100000 in
theorem m_X4_isReadFromBehindAs : q_okm iX4_isReadFromBehindAs 2 := ⟨q_t 328 rfl rfl, q_t 1 rfl rfl, ⟨by decide +kernel, by decide +kernel, by decide +kernel⟩, by decide +kernel, rfl⟩
set_option maxRecDepth 100000 in
theorem k_X4_isReadFromBehindAs : q_oki iX4_isReadFromBehindAs := ⟨q_t 327 rfl rfl, q_s 19 rfl rfl, ⟨_, _, rfl⟩⟩
set_option maxRecDepth 100000 in
theorem m_X4_hasCellsFor : q_okm iX4_hasCellsFor 2 := ⟨q_t 352 rfl rfl, q_t 1 rfl rfl, ⟨by decide +kernel, by decide +kernel, by decide +kernel⟩, by decide +kernel, rfl⟩
set_option maxRecDepth 100000 in
theorem k_X4_hasCellsFor : q_oki iX4_hasCellsFor := ⟨q_t 351 rfl rfl, q_s 24 rfl rfl, ⟨_, _, rfl⟩⟩
set_option maxRecDepth 100000 in
theorem m_X4_costAt : q_okm iX4_costAt 2 := ⟨q_t 348 rfl rfl, q_t 1 rfl rfl, ⟨by decide +kernel, by decide +kernel, by decide +kernel⟩, by decide +kernel, rfl⟩
set_option maxRecDepth 100000 in
theorem k_X4_costAt : q_oki iX4_costAt := ⟨q_t 347 rfl rfl, q_s 23 rfl rfl, ⟨_, _, rfl⟩⟩
set_option maxRecDepth 100000 in
theorem m_X4_cheapestAt : q_okm iX4_cheapestAt 1 := ⟨q_t 366 rfl rfl, q_t 1 rfl rfl, ⟨by decide +kernel, by decide +kernel, by decide +kernel⟩, by decide +kernel, rfl⟩
set_option maxRecDepth 100000 in
theorem k_X4_cheapestAt : q_oki iX4_cheapestAt := ⟨q_t 365 rfl rfl, q_s 25 rfl rfl, ⟨_, _, rfl⟩⟩
set_option maxRecDepth 100000 in
theorem m_X4_bestLine : q_okm iX4_bestLine 0 := ⟨q_t 378 rfl rfl, q_t 1 rfl rfl, ⟨by decide +kernel, by decide +kernel, by decide +kernel⟩, by decide +kernel, rfl⟩
set_option maxRecDepth 100000 in
theorem k_X4_bestLine : q_oki iX4_bestLine := ⟨q_t 377 rfl rfl, q_s 26 rfl rfl, ⟨_, _, rfl⟩⟩
set_option maxRecDepth 100000 in
theorem m_X4_bestBehindWord : q_okm iX4_bestBehindWord 1 := ⟨q_t 382 rfl rfl, q_t 1 rfl rfl, ⟨by decide +kernel, by decide +kernel, by decide +kernel⟩, by decide +kernel, rfl⟩
set_option maxRecDepth 100000 in
theorem k_X4_bestBehindWord : q_oki iX4_bestBehindWord := ⟨q_t 381 rfl rfl, q_s 27 rfl rfl, ⟨_, _, rfl⟩⟩
set_option maxRecDepth 100000 in
theorem m_X4_isOnePointLess : q_okm iX4_isOnePointLess 2 := ⟨q_t 392 rfl rfl, q_t 1 rfl rfl, ⟨by decide +kernel, by decide +kernel, by decide +kernel⟩, by decide +kernel, rfl⟩
set_option maxRecDepth 100000 in
theorem k_X4_isOnePointLess : Cond.static (mY iX4_isOnePointLess) ∈ q_tbl := q_t 391 rfl rfl
set_option maxRecDepth 100000 in
theorem m_X4_isApartFromOthers : q_okm iX4_isApartFromOthers 2 := ⟨q_t 400 rfl rfl, q_t 1 rfl rfl, ⟨by decide +kernel, by decide +kernel, by decide +kernel⟩, by decide +kernel, rfl⟩
set_option maxRecDepth 100000 in
theorem k_X4_isApartFromOthers : q_oki iX4_isApartFromOthers := ⟨q_t 399 rfl rfl, q_s 28 rfl rfl, ⟨_, _, rfl⟩⟩
set_option maxRecDepth 100000 in
theorem m_X4_freeSigns : q_okm iX4_freeSigns 0 := ⟨q_t 408 rfl rfl, q_t 1 rfl rfl, ⟨by decide +kernel, by decide +kernel, by decide +kernel⟩, by decide +kernel, rfl⟩
set_option maxRecDepth 100000 in
theorem k_X4_freeSigns : q_oki iX4_freeSigns := ⟨q_t 407 rfl rfl, q_s 29 rfl rfl, ⟨_, _, rfl⟩⟩
set_option maxRecDepth 100000 in
theorem m_X4_shortened : q_okm iX4_shortened 1 := ⟨q_t 412 rfl rfl, q_t 1 rfl rfl, ⟨by decide +kernel, by decide +kernel, by decide +kernel⟩, by decide +kernel, rfl⟩
set_option maxRecDepth 100000 in
theorem k_X4_shortened : q_oki iX4_shortened := ⟨q_t 411 rfl rfl, q_s 30 rfl rfl, ⟨_, _, rfl⟩⟩
set_option maxRecDepth 100000 in
theorem m_X4_mostSavingBut : q_okm iX4_mostSavingBut 1 := ⟨q_t 416 rfl rfl, q_t 1 rfl rfl, ⟨by decide +kernel, by decide +kernel, by decide +kernel⟩, by decide +kernel, rfl⟩
set_option maxRecDepth 100000 in
theorem k_X4_mostSavingBut : q_oki iX4_mostSavingBut := ⟨q_t 415 rfl rfl, q_s 31 rfl rfl, ⟨_, _, rfl⟩⟩
set_option maxRecDepth 100000 in
theorem m_X4_savedBy : q_okm iX4_savedBy 1 := ⟨q_t 420 rfl rfl, q_t 1 rfl rfl, ⟨by decide +kernel, by decide +kernel, by decide +kernel⟩, by decide +kernel, rfl⟩
set_option maxRecDepth 100000 in
theorem k_X4_savedBy : q_oki iX4_savedBy := ⟨q_t 419 rfl rfl, q_s 32 rfl rfl, ⟨_, _, rfl⟩⟩
set_option maxRecDepth 100000 in
theorem m_X4_lieTogether : q_okm iX4_lieTogether 3 := ⟨q_t 428 rfl rfl, q_t 1 rfl rfl, ⟨by decide +kernel, by decide +kernel, by decide +kernel⟩, by decide +kernel, rfl⟩
set_option maxRecDepth 100000 in
theorem k_X4_lieTogether : q_oki iX4_lieTogether := ⟨q_t 427 rfl rfl, q_s 33 rfl rfl, ⟨_, _, rfl⟩⟩
set_option maxRecDepth 100000 in
theorem m_X4_firstClash : q_okm iX4_firstClash 1 := ⟨q_t 436 rfl rfl, q_t 1 rfl rfl, ⟨by decide +kernel, by decide +kernel, by decide +kernel⟩, by decide +kernel, rfl⟩
set_option maxRecDepth 100000 in
theorem k_X4_firstClash : q_oki iX4_firstClash := ⟨q_t 435 rfl rfl, q_s 34 rfl rfl, ⟨_, _, rfl⟩⟩
set_option maxRecDepth 100000 in
theorem m_X4_skippedAt : q_okm iX4_skippedAt 1 := ⟨q_t 448 rfl rfl, q_t 1 rfl rfl, ⟨by decide +kernel, by decide +kernel, by decide +kernel⟩, by decide +kernel, rfl⟩
set_option maxRecDepth 100000 in
theorem k_X4_skippedAt : q_oki iX4_skippedAt := ⟨q_t 447 rfl rfl, q_s 35 rfl rfl, ⟨_, _, rfl⟩⟩
set_option maxRecDepth 100000 in
theorem m_X4_skippedBy : q_okm iX4_skippedBy 1 := ⟨q_t 452 rfl rfl, q_t 1 rfl rfl, ⟨by decide +kernel, by decide +kernel, by decide +kernel⟩, by decide +kernel, rfl⟩
set_option maxRecDepth 100000 in
theorem k_X4_skippedBy : q_oki iX4_skippedBy := ⟨q_t 451 rfl rfl, q_s 36 rfl rfl, ⟨_, _, rfl⟩⟩
set_option maxRecDepth 100000 in
theorem m_X4_wearDown : q_okm iX4_wearDown 1 := ⟨q_t 460 rfl rfl, q_t 1 rfl rfl, ⟨by decide +kernel, by decide +kernel, by decide +kernel⟩, by decide +kernel, rfl⟩
set_option maxRecDepth 100000 in
theorem k_X4_wearDown : q_oki iX4_wearDown := ⟨q_t 459 rfl rfl, q_s 37 rfl rfl, ⟨_, _, rfl⟩⟩
set_option maxRecDepth 100000 in
theorem m_X4_nextRaised : q_okm iX4_nextRaised 1 := ⟨q_t 464 rfl rfl, q_t 1 rfl rfl, ⟨by decide +kernel, by decide +kernel, by decide +kernel⟩, by decide +kernel, rfl⟩
set_option maxRecDepth 100000 in
theorem k_X4_nextRaised : q_oki iX4_nextRaised := ⟨q_t 463 rfl rfl, q_s 38 rfl rfl, ⟨_, _, rfl⟩⟩
set_option maxRecDepth 100000 in
theorem m_X4_withoutGreatestPoint : q_okm iX4_withoutGreatestPoint 1 := ⟨q_t 467 rfl rfl, q_t 1 rfl rfl, ⟨by decide +kernel, by decide +kernel, by decide +kernel⟩, by decide +kernel, rfl⟩
set_option maxRecDepth 100000 in
theorem k_X4_withoutGreatestPoint : Cond.static (mY iX4_withoutGreatestPoint) ∈ q_tbl := q_t 466 rfl rfl
set_option maxRecDepth 100000 in
theorem m_X4_sheetAt : q_okm iX4_sheetAt 1 := ⟨q_t 247 rfl rfl, q_t 1 rfl rfl, ⟨by decide +kernel, by decide +kernel, by decide +kernel⟩, by decide +kernel, rfl⟩
set_option maxRecDepth 100000 in
theorem k_X4_sheetAt : q_oki iX4_sheetAt := ⟨q_t 246 rfl rfl, q_s 10 rfl rfl, ⟨_, _, rfl⟩⟩
set_option maxRecDepth 100000 in
theorem m_X4_find : q_okm iX4_find 1 := ⟨q_t 255 rfl rfl, q_t 1 rfl rfl, ⟨by decide +kernel, by decide +kernel, by decide +kernel⟩, by decide +kernel, rfl⟩
set_option maxRecDepth 100000 in
theorem k_X4_find : q_oki iX4_find := ⟨q_t 254 rfl rfl, q_s 12 rfl rfl, ⟨_, _, rfl⟩⟩
set_option maxRecDepth 100000 in
theorem m_X4_itemFinding : q_okm iX4_itemFinding 3 := ⟨q_t 493 rfl rfl, q_t 1 rfl rfl, ⟨by decide +kernel, by decide +kernel, by decide +kernel⟩, by decide +kernel, rfl⟩
set_option maxRecDepth 100000 in
theorem k_X4_itemFinding : Cond.static (mY iX4_itemFinding) ∈ q_tbl := q_t 492 rfl rfl
set_option maxRecDepth 100000 in
theorem m_X5_in : q_okm iX5_in 3 := ⟨q_t 650 rfl rfl, q_t 8 rfl rfl, ⟨by decide +kernel, by decide +kernel, by decide +kernel⟩, by decide +kernel, rfl⟩
set_option maxRecDepth 100000 in
theorem k_X5_in : Cond.static (mY iX5_in) ∈ q_tbl := q_t 649 rfl rfl
set_option maxRecDepth 100000 in
theorem m_X5_ones : q_okm iX5_ones 1 := ⟨q_t 783 rfl rfl, q_t 8 rfl rfl, ⟨by decide +kernel, by decide +kernel, by decide +kernel⟩, by decide +kernel, rfl⟩
set_option maxRecDepth 100000 in
theorem k_X5_ones : Cond.static (mY iX5_ones) ∈ q_tbl := q_t 782 rfl rfl
set_option maxRecDepth 100000 in
theorem m_X5_type : q_okm iX5_type 2 := ⟨q_t 647 rfl rfl, q_t 8 rfl rfl, ⟨by decide +kernel, by decide +kernel, by decide +kernel⟩, by decide +kernel, rfl⟩
set_option maxRecDepth 100000 in
theorem k_X5_type : q_oki iX5_type := ⟨q_t 645 rfl rfl, q_t 646 rfl rfl, ⟨_, _, rfl⟩⟩
set_option maxRecDepth 100000 in
theorem m_X5_wipe : q_okm iX5_wipe 1 := ⟨q_t 654 rfl rfl, q_t 8 rfl rfl, ⟨by decide +kernel, by decide +kernel, by decide +kernel⟩, by decide +kernel, rfl⟩
set_option maxRecDepth 100000 in
theorem k_X5_wipe : q_oki iX5_wipe := ⟨q_t 652 rfl rfl, q_t 653 rfl rfl, ⟨_, _, rfl⟩⟩
set_option maxRecDepth 100000 in
theorem m_X5_letterAt : q_okm iX5_letterAt 2 := ⟨q_t 670 rfl rfl, q_t 8 rfl rfl, ⟨by decide +kernel, by decide +kernel, by decide +kernel⟩, by decide +kernel, rfl⟩
set_option maxRecDepth 100000 in
theorem k_X5_letterAt : q_oki iX5_letterAt := ⟨q_t 669 rfl rfl, q_s 47 rfl rfl, ⟨_, _, rfl⟩⟩
set_option maxRecDepth 100000 in
theorem m_X5_readsPage : q_okm iX5_readsPage 0 := ⟨q_t 666 rfl rfl, q_t 8 rfl rfl, ⟨by decide +kernel, by decide +kernel, by decide +kernel⟩, by decide +kernel, rfl⟩
set_option maxRecDepth 100000 in
theorem k_X5_readsPage : q_oki iX5_readsPage := ⟨q_t 665 rfl rfl, q_s 46 rfl rfl, ⟨_, _, rfl⟩⟩
set_option maxRecDepth 100000 in
theorem m_X5_readsWords : q_okm iX5_readsWords 0 := ⟨q_t 674 rfl rfl, q_t 8 rfl rfl, ⟨by decide +kernel, by decide +kernel, by decide +kernel⟩, by decide +kernel, rfl⟩
set_option maxRecDepth 100000 in
theorem k_X5_readsWords : q_oki iX5_readsWords := ⟨q_t 673 rfl rfl, q_s 48 rfl rfl, ⟨_, _, rfl⟩⟩
set_option maxRecDepth 100000 in
theorem m_X5_faultOf : q_okm iX5_faultOf 1 := ⟨q_t 662 rfl rfl, q_t 8 rfl rfl, ⟨by decide +kernel, by decide +kernel, by decide +kernel⟩, by decide +kernel, rfl⟩
set_option maxRecDepth 100000 in
theorem k_X5_faultOf : q_oki iX5_faultOf := ⟨q_t 661 rfl rfl, q_s 45 rfl rfl, ⟨_, _, rfl⟩⟩
set_option maxRecDepth 100000 in
theorem m_X5_reads : q_okm iX5_reads 0 := ⟨q_t 717 rfl rfl, q_t 8 rfl rfl, ⟨by decide +kernel, by decide +kernel, by decide +kernel⟩, by decide +kernel, rfl⟩
set_option maxRecDepth 100000 in
theorem k_X5_reads : q_oki iX5_reads := ⟨q_t 716 rfl rfl, q_s 51 rfl rfl, ⟨_, _, rfl⟩⟩
set_option maxRecDepth 100000 in
theorem m_X5_fault : q_okm iX5_fault 1 := ⟨q_t 658 rfl rfl, q_t 8 rfl rfl, ⟨by decide +kernel, by decide +kernel, by decide +kernel⟩, by decide +kernel, rfl⟩
set_option maxRecDepth 100000 in
theorem k_X5_fault : q_oki iX5_fault := ⟨q_t 656 rfl rfl, q_t 657 rfl rfl, ⟨_, _, rfl⟩⟩
set_option maxRecDepth 100000 in
theorem m_X5_isCell : q_okm iX5_isCell 1 := ⟨q_t 713 rfl rfl, q_t 8 rfl rfl, ⟨by decide +kernel, by decide +kernel, by decide +kernel⟩, by decide +kernel, rfl⟩
set_option maxRecDepth 100000 in
theorem k_X5_isCell : q_oki iX5_isCell := ⟨q_t 712 rfl rfl, q_s 50 rfl rfl, ⟨_, _, rfl⟩⟩
set_option maxRecDepth 100000 in
theorem m_X5_isWord : q_okm iX5_isWord 1 := ⟨q_t 772 rfl rfl, q_t 8 rfl rfl, ⟨by decide +kernel, by decide +kernel, by decide +kernel⟩, by decide +kernel, rfl⟩
set_option maxRecDepth 100000 in
theorem k_X5_isWord : q_oki iX5_isWord := ⟨q_t 771 rfl rfl, q_s 59 rfl rfl, ⟨_, _, rfl⟩⟩
set_option maxRecDepth 100000 in
theorem m_X5_sign : q_okm iX5_sign 2 := ⟨q_t 678 rfl rfl, q_t 8 rfl rfl, ⟨by decide +kernel, by decide +kernel, by decide +kernel⟩, by decide +kernel, rfl⟩
set_option maxRecDepth 100000 in
theorem k_X5_sign : q_oki iX5_sign := ⟨q_t 676 rfl rfl, q_t 677 rfl rfl, ⟨_, _, rfl⟩⟩
set_option maxRecDepth 100000 in
theorem m_X5_read : q_okm iX5_read 1 := ⟨q_t 682 rfl rfl, q_t 8 rfl rfl, ⟨by decide +kernel, by decide +kernel, by decide +kernel⟩, by decide +kernel, rfl⟩
set_option maxRecDepth 100000 in
theorem k_X5_read : q_oki iX5_read := ⟨q_t 680 rfl rfl, q_t 681 rfl rfl, ⟨_, _, rfl⟩⟩
set_option maxRecDepth 100000 in
theorem m_X5_slip : q_okm iX5_slip 3 := ⟨q_t 693 rfl rfl, q_t 8 rfl rfl, ⟨by decide +kernel, by decide +kernel, by decide +kernel⟩, by decide +kernel, rfl⟩
set_option maxRecDepth 100000 in
theorem k_X5_slip : q_oki iX5_slip := ⟨q_t 691 rfl rfl, q_t 692 rfl rfl, ⟨_, _, rfl⟩⟩
set_option maxRecDepth 100000 in
theorem m_X5_undo : q_okm iX5_undo 0 := ⟨q_t 697 rfl rfl, q_t 8 rfl rfl, ⟨by decide +kernel, by decide +kernel, by decide +kernel⟩, by decide +kernel, rfl⟩
set_option maxRecDepth 100000 in
theorem k_X5_undo : q_oki iX5_undo := ⟨q_t 695 rfl rfl, q_t 696 rfl rfl, ⟨_, _, rfl⟩⟩
set_option maxRecDepth 100000 in
theorem m_X5_set : q_okm iX5_set 2 := ⟨q_t 701 rfl rfl, q_t 8 rfl rfl, ⟨by decide +kernel, by decide +kernel, by decide +kernel⟩, by decide +kernel, rfl⟩
set_option maxRecDepth 100000 in
theorem k_X5_set : q_oki iX5_set := ⟨q_t 699 rfl rfl, q_t 700 rfl rfl, ⟨_, _, rfl⟩⟩
set_option maxRecDepth 100000 in
theorem m_X5_often : q_okm iX5_often 2 := ⟨q_t 705 rfl rfl, q_t 8 rfl rfl, ⟨by decide +kernel, by decide +kernel, by decide +kernel⟩, by decide +kernel, rfl⟩
set_option maxRecDepth 100000 in
theorem k_X5_often : q_oki iX5_often := ⟨q_t 703 rfl rfl, q_t 704 rfl rfl, ⟨_, _, rfl⟩⟩
set_option maxRecDepth 100000 in
theorem m_X5_signOf : q_okm iX5_signOf 1 := ⟨q_t 725 rfl rfl, q_t 8 rfl rfl, ⟨by decide +kernel, by decide +kernel, by decide +kernel⟩, by decide +kernel, rfl⟩
set_option maxRecDepth 100000 in
theorem k_X5_signOf : q_oki iX5_signOf := ⟨q_t 724 rfl rfl, q_s 53 rfl rfl, ⟨_, _, rfl⟩⟩
set_option maxRecDepth 100000 in
theorem m_X5_cellOf : q_okm iX5_cellOf 1 := ⟨q_t 721 rfl rfl, q_t 8 rfl rfl, ⟨by decide +kernel, by decide +kernel, by decide +kernel⟩, by decide +kernel, rfl⟩
set_option maxRecDepth 100000 in
theorem k_X5_cellOf : q_oki iX5_cellOf := ⟨q_t 720 rfl rfl, q_s 52 rfl rfl, ⟨_, _, rfl⟩⟩
set_option maxRecDepth 100000 in
theorem m_X5_cell : q_okm iX5_cell 1 := ⟨q_t 709 rfl rfl, q_t 8 rfl rfl, ⟨by decide +kernel, by decide +kernel, by decide +kernel⟩, by decide +kernel, rfl⟩
set_option maxRecDepth 100000 in
theorem k_X5_cell : q_oki iX5_cell := ⟨q_t 707 rfl rfl, q_t 708 rfl rfl, ⟨_, _, rfl⟩⟩
set_option maxRecDepth 100000 in
theorem m_X5_readAs : q_okm iX5_readAs 1 := ⟨q_t 733 rfl rfl, q_t 8 rfl rfl, ⟨by decide +kernel, by decide +kernel, by decide +kernel⟩, by decide +kernel, rfl⟩
set_option maxRecDepth 100000 in
theorem k_X5_readAs : q_oki iX5_readAs := ⟨q_t 732 rfl rfl, q_s 54 rfl rfl, ⟨_, _, rfl⟩⟩
set_option maxRecDepth 100000 in
theorem m_X5_letter : q_okm iX5_letter 1 := ⟨q_t 729 rfl rfl, q_t 8 rfl rfl, ⟨by decide +kernel, by decide +kernel, by decide +kernel⟩, by decide +kernel, rfl⟩
set_option maxRecDepth 100000 in
theorem k_X5_letter : q_oki iX5_letter := ⟨q_t 727 rfl rfl, q_t 728 rfl rfl, ⟨_, _, rfl⟩⟩
set_option maxRecDepth 100000 in
theorem m_X5_judgedNow : q_okm iX5_judgedNow 0 := ⟨q_t 741 rfl rfl, q_t 8 rfl rfl, ⟨by decide +kernel, by decide +kernel, by decide +kernel⟩, by decide +kernel, rfl⟩
set_option maxRecDepth 100000 in
theorem k_X5_judgedNow : q_oki iX5_judgedNow := ⟨q_t 740 rfl rfl, q_s 55 rfl rfl, ⟨_, _, rfl⟩⟩
set_option maxRecDepth 100000 in
theorem m_X5_judged : q_okm iX5_judged 0 := ⟨q_t 737 rfl rfl, q_t 8 rfl rfl, ⟨by decide +kernel, by decide +kernel, by decide +kernel⟩, by decide +kernel, rfl⟩
set_option maxRecDepth 100000 in
theorem k_X5_judged : q_oki iX5_judged := ⟨q_t 735 rfl rfl, q_t 736 rfl rfl, ⟨_, _, rfl⟩⟩
set_option maxRecDepth 100000 in
theorem m_X5_turned : q_okm iX5_turned 1 := ⟨q_t 752 rfl rfl, q_t 8 rfl rfl, ⟨by decide +kernel, by decide +kernel, by decide +kernel⟩, by decide +kernel, rfl⟩
set_option maxRecDepth 100000 in
theorem k_X5_turned : Cond.static (mY iX5_turned) ∈ q_tbl := q_t 751 rfl rfl
set_option maxRecDepth 100000 in
theorem m_X5_wrongOf : q_okm iX5_wrongOf 1 := ⟨q_t 749 rfl rfl, q_t 8 rfl rfl, ⟨by decide +kernel, by decide +kernel, by decide +kernel⟩, by decide +kernel, rfl⟩
set_option maxRecDepth 100000 in
theorem k_X5_wrongOf : q_oki iX5_wrongOf := ⟨q_t 748 rfl rfl, q_s 56 rfl rfl, ⟨_, _, rfl⟩⟩
set_option maxRecDepth 100000 in
theorem m_X5_wrong : q_okm iX5_wrong 1 := ⟨q_t 745 rfl rfl, q_t 8 rfl rfl, ⟨by decide +kernel, by decide +kernel, by decide +kernel⟩, by decide +kernel, rfl⟩
set_option maxRecDepth 100000 in
theorem k_X5_wrong : q_oki iX5_wrong := ⟨q_t 743 rfl rfl, q_t 744 rfl rfl, ⟨_, _, rfl⟩⟩
set_option maxRecDepth 100000 in
theorem m_X5_mirrored : q_okm iX5_mirrored 1 := ⟨q_t 756 rfl rfl, q_t 8 rfl rfl, ⟨by decide +kernel, by decide +kernel, by decide +kernel⟩, by decide +kernel, rfl⟩
set_option maxRecDepth 100000 in
theorem k_X5_mirrored : q_oki iX5_mirrored := ⟨q_t 754 rfl rfl, q_t 755 rfl rfl, ⟨_, _, rfl⟩⟩
set_option maxRecDepth 100000 in
theorem m_X5_bothOf : q_okm iX5_bothOf 1 := ⟨q_t 768 rfl rfl, q_t 8 rfl rfl, ⟨by decide +kernel, by decide +kernel, by decide +kernel⟩, by decide +kernel, rfl⟩
set_option maxRecDepth 100000 in
theorem k_X5_bothOf : q_oki iX5_bothOf := ⟨q_t 767 rfl rfl, q_s 58 rfl rfl, ⟨_, _, rfl⟩⟩
set_option maxRecDepth 100000 in
theorem m_X5_bothAll : q_okm iX5_bothAll 0 := ⟨q_t 764 rfl rfl, q_t 8 rfl rfl, ⟨by decide +kernel, by decide +kernel, by decide +kernel⟩, by decide +kernel, rfl⟩
set_option maxRecDepth 100000 in
theorem k_X5_bothAll : q_oki iX5_bothAll := ⟨q_t 763 rfl rfl, q_s 57 rfl rfl, ⟨_, _, rfl⟩⟩
set_option maxRecDepth 100000 in
theorem m_X5_both : q_okm iX5_both 1 := ⟨q_t 760 rfl rfl, q_t 8 rfl rfl, ⟨by decide +kernel, by decide +kernel, by decide +kernel⟩, by decide +kernel, rfl⟩
set_option maxRecDepth 100000 in
theorem k_X5_both : q_oki iX5_both := ⟨q_t 758 rfl rfl, q_t 759 rfl rfl, ⟨_, _, rfl⟩⟩
set_option maxRecDepth 100000 in
theorem m_X5_fitsOf : q_okm iX5_fitsOf 2 := ⟨q_t 780 rfl rfl, q_t 8 rfl rfl, ⟨by decide +kernel, by decide +kernel, by decide +kernel⟩, by decide +kernel, rfl⟩
set_option maxRecDepth 100000 in
theorem k_X5_fitsOf : q_oki iX5_fitsOf := ⟨q_t 779 rfl rfl, q_s 60 rfl rfl, ⟨_, _, rfl⟩⟩
set_option maxRecDepth 100000 in
theorem m_X5_fits : q_okm iX5_fits 2 := ⟨q_t 776 rfl rfl, q_t 8 rfl rfl, ⟨by decide +kernel, by decide +kernel, by decide +kernel⟩, by decide +kernel, rfl⟩
set_option maxRecDepth 100000 in
theorem k_X5_fits : q_oki iX5_fits := ⟨q_t 774 rfl rfl, q_t 775 rfl rfl, ⟨_, _, rfl⟩⟩
set_option maxRecDepth 100000 in
theorem m_X5_meantOf : q_okm iX5_meantOf 2 := ⟨q_t 791 rfl rfl, q_t 8 rfl rfl, ⟨by decide +kernel, by decide +kernel, by decide +kernel⟩, by decide +kernel, rfl⟩
set_option maxRecDepth 100000 in
theorem k_X5_meantOf : q_oki iX5_meantOf := ⟨q_t 790 rfl rfl, q_s 61 rfl rfl, ⟨_, _, rfl⟩⟩
set_option maxRecDepth 100000 in
theorem m_X5_meant : q_okm iX5_meant 2 := ⟨q_t 787 rfl rfl, q_t 8 rfl rfl, ⟨by decide +kernel, by decide +kernel, by decide +kernel⟩, by decide +kernel, rfl⟩
set_option maxRecDepth 100000 in
theorem k_X5_meant : q_oki iX5_meant := ⟨q_t 785 rfl rfl, q_t 786 rfl rfl, ⟨_, _, rfl⟩⟩
set_option maxRecDepth 100000 in
theorem m_X5_withinOf : q_okm iX5_withinOf 2 := ⟨q_t 799 rfl rfl, q_t 8 rfl rfl, ⟨by decide +kernel, by decide +kernel, by decide +kernel⟩, by decide +kernel, rfl⟩
set_option maxRecDepth 100000 in
theorem k_X5_withinOf : q_oki iX5_withinOf := ⟨q_t 798 rfl rfl, q_s 62 rfl rfl, ⟨_, _, rfl⟩⟩
set_option maxRecDepth 100000 in
theorem m_X5_within : q_okm iX5_within 2 := ⟨q_t 795 rfl rfl, q_t 8 rfl rfl, ⟨by decide +kernel, by decide +kernel, by decide +kernel⟩, by decide +kernel, rfl⟩
set_option maxRecDepth 100000 in
theorem k_X5_within : q_oki iX5_within := ⟨q_t 793 rfl rfl, q_t 794 rfl rfl, ⟨_, _, rfl⟩⟩
set_option maxRecDepth 100000 in
theorem m_X5_lineOf : q_okm iX5_lineOf 1 := ⟨q_t 807 rfl rfl, q_t 8 rfl rfl, ⟨by decide +kernel, by decide +kernel, by decide +kernel⟩, by decide +kernel, rfl⟩
set_option maxRecDepth 100000 in
theorem k_X5_lineOf : q_oki iX5_lineOf := ⟨q_t 806 rfl rfl, q_s 63 rfl rfl, ⟨_, _, rfl⟩⟩
set_option maxRecDepth 100000 in
theorem m_X5_line : q_okm iX5_line 1 := ⟨q_t 803 rfl rfl, q_t 8 rfl rfl, ⟨by decide +kernel, by decide +kernel, by decide +kernel⟩, by decide +kernel, rfl⟩
set_option maxRecDepth 100000 in
theorem k_X5_line : q_oki iX5_line := ⟨q_t 801 rfl rfl, q_t 802 rfl rfl, ⟨_, _, rfl⟩⟩
set_option maxRecDepth 100000 in
theorem m_X5_isLess : q_okm iX5_isLess 2 := ⟨q_t 818 rfl rfl, q_t 8 rfl rfl, ⟨by decide +kernel, by decide +kernel, by decide +kernel⟩, by decide +kernel, rfl⟩
set_option maxRecDepth 100000 in
theorem k_X5_isLess : Cond.static (mY iX5_isLess) ∈ q_tbl := q_t 817 rfl rfl
set_option maxRecDepth 100000 in
theorem m_X5_slipperyNow : q_okm iX5_slipperyNow 0 := ⟨q_t 815 rfl rfl, q_t 8 rfl rfl, ⟨by decide +kernel, by decide +kernel, by decide +kernel⟩, by decide +kernel, rfl⟩
set_option maxRecDepth 100000 in
theorem k_X5_slipperyNow : q_oki iX5_slipperyNow := ⟨q_t 814 rfl rfl, q_s 64 rfl rfl, ⟨_, _, rfl⟩⟩
set_option maxRecDepth 100000 in
theorem m_X5_slippery : q_okm iX5_slippery 0 := ⟨q_t 811 rfl rfl, q_t 8 rfl rfl, ⟨by decide +kernel, by decide +kernel, by decide +kernel⟩, by decide +kernel, rfl⟩
set_option maxRecDepth 100000 in
theorem k_X5_slippery : q_oki iX5_slippery := ⟨q_t 809 rfl rfl, q_t 810 rfl rfl, ⟨_, _, rfl⟩⟩
set_option maxRecDepth 100000 in
theorem m_X5_betterOf : q_okm iX5_betterOf 1 := ⟨q_t 826 rfl rfl, q_t 8 rfl rfl, ⟨by decide +kernel, by decide +kernel, by decide +kernel⟩, by decide +kernel, rfl⟩
set_option maxRecDepth 100000 in
theorem k_X5_betterOf : q_oki iX5_betterOf := ⟨q_t 825 rfl rfl, q_s 65 rfl rfl, ⟨_, _, rfl⟩⟩
set_option maxRecDepth 100000 in
theorem m_X5_better : q_okm iX5_better 1 := ⟨q_t 822 rfl rfl, q_t 8 rfl rfl, ⟨by decide +kernel, by decide +kernel, by decide +kernel⟩, by decide +kernel, rfl⟩
set_option maxRecDepth 100000 in
theorem k_X5_better : q_oki iX5_better := ⟨q_t 820 rfl rfl, q_t 821 rfl rfl, ⟨_, _, rfl⟩⟩
set_option maxRecDepth 100000 in
theorem m_X5_freeSigns : q_okm iX5_freeSigns 0 := ⟨q_t 838 rfl rfl, q_t 8 rfl rfl, ⟨by decide +kernel, by decide +kernel, by decide +kernel⟩, by decide +kernel, rfl⟩
set_option maxRecDepth 100000 in
theorem k_X5_freeSigns : q_oki iX5_freeSigns := ⟨q_t 837 rfl rfl, q_s 67 rfl rfl, ⟨_, _, rfl⟩⟩
set_option maxRecDepth 100000 in
theorem m_X5_shortsOf : q_okm iX5_shortsOf 2 := ⟨q_t 834 rfl rfl, q_t 8 rfl rfl, ⟨by decide +kernel, by decide +kernel, by decide +kernel⟩, by decide +kernel, rfl⟩
set_option maxRecDepth 100000 in
theorem k_X5_shortsOf : q_oki iX5_shortsOf := ⟨q_t 833 rfl rfl, q_s 66 rfl rfl, ⟨_, _, rfl⟩⟩
set_option maxRecDepth 100000 in
theorem m_X5_shorts : q_okm iX5_shorts 2 := ⟨q_t 830 rfl rfl, q_t 8 rfl rfl, ⟨by decide +kernel, by decide +kernel, by decide +kernel⟩, by decide +kernel, rfl⟩
set_option maxRecDepth 100000 in
theorem k_X5_shorts : q_oki iX5_shorts := ⟨q_t 828 rfl rfl, q_t 829 rfl rfl, ⟨_, _, rfl⟩⟩
set_option maxRecDepth 100000 in
theorem m_X5_underOf : q_okm iX5_underOf 2 := ⟨q_t 846 rfl rfl, q_t 8 rfl rfl, ⟨by decide +kernel, by decide +kernel, by decide +kernel⟩, by decide +kernel, rfl⟩
set_option maxRecDepth 100000 in
theorem k_X5_underOf : q_oki iX5_underOf := ⟨q_t 845 rfl rfl, q_s 68 rfl rfl, ⟨_, _, rfl⟩⟩
set_option maxRecDepth 100000 in
theorem m_X5_under : q_okm iX5_under 2 := ⟨q_t 842 rfl rfl, q_t 8 rfl rfl, ⟨by decide +kernel, by decide +kernel, by decide +kernel⟩, by decide +kernel, rfl⟩
set_option maxRecDepth 100000 in
theorem k_X5_under : q_oki iX5_under := ⟨q_t 840 rfl rfl, q_t 841 rfl rfl, ⟨_, _, rfl⟩⟩
set_option maxRecDepth 100000 in
theorem m_X5_clashOf : q_okm iX5_clashOf 1 := ⟨q_t 854 rfl rfl, q_t 8 rfl rfl, ⟨by decide +kernel, by decide +kernel, by decide +kernel⟩, by decide +kernel, rfl⟩
set_option maxRecDepth 100000 in
theorem k_X5_clashOf : q_oki iX5_clashOf := ⟨q_t 853 rfl rfl, q_s 69 rfl rfl, ⟨_, _, rfl⟩⟩
set_option maxRecDepth 100000 in
theorem m_X5_clash : q_okm iX5_clash 1 := ⟨q_t 850 rfl rfl, q_t 8 rfl rfl, ⟨by decide +kernel, by decide +kernel, by decide +kernel⟩, by decide +kernel, rfl⟩
set_option maxRecDepth 100000 in
theorem k_X5_clash : q_oki iX5_clash := ⟨q_t 848 rfl rfl, q_t 849 rfl rfl, ⟨_, _, rfl⟩⟩
set_option maxRecDepth 100000 in
theorem m_X5_hand : q_okm iX5_hand 3 := ⟨q_t 858 rfl rfl, q_t 8 rfl rfl, ⟨by decide +kernel, by decide +kernel, by decide +kernel⟩, by decide +kernel, rfl⟩
set_option maxRecDepth 100000 in
theorem k_X5_hand : q_oki iX5_hand := ⟨q_t 856 rfl rfl, q_t 857 rfl rfl, ⟨_, _, rfl⟩⟩
set_option maxRecDepth 100000 in
theorem m_X5_whoseNow : q_okm iX5_whoseNow 0 := ⟨q_t 866 rfl rfl, q_t 8 rfl rfl, ⟨by decide +kernel, by decide +kernel, by decide +kernel⟩, by decide +kernel, rfl⟩
set_option maxRecDepth 100000 in
theorem k_X5_whoseNow : q_oki iX5_whoseNow := ⟨q_t 865 rfl rfl, q_s 70 rfl rfl, ⟨_, _, rfl⟩⟩
set_option maxRecDepth 100000 in
theorem m_X5_whose : q_okm iX5_whose 0 := ⟨q_t 862 rfl rfl, q_t 8 rfl rfl, ⟨by decide +kernel, by decide +kernel, by decide +kernel⟩, by decide +kernel, rfl⟩
set_option maxRecDepth 100000 in
theorem k_X5_whose : q_oki iX5_whose := ⟨q_t 860 rfl rfl, q_t 861 rfl rfl, ⟨_, _, rfl⟩⟩
set_option maxRecDepth 100000 in
theorem m_X5_wearOf : q_okm iX5_wearOf 2 := ⟨q_t 874 rfl rfl, q_t 8 rfl rfl, ⟨by decide +kernel, by decide +kernel, by decide +kernel⟩, by decide +kernel, rfl⟩
set_option maxRecDepth 100000 in
theorem k_X5_wearOf : q_oki iX5_wearOf := ⟨q_t 873 rfl rfl, q_s 71 rfl rfl, ⟨_, _, rfl⟩⟩
set_option maxRecDepth 100000 in
theorem m_X5_wear : q_okm iX5_wear 2 := ⟨q_t 870 rfl rfl, q_t 8 rfl rfl, ⟨by decide +kernel, by decide +kernel, by decide +kernel⟩, by decide +kernel, rfl⟩
set_option maxRecDepth 100000 in
theorem k_X5_wear : q_oki iX5_wear := ⟨q_t 868 rfl rfl, q_t 869 rfl rfl, ⟨_, _, rfl⟩⟩
set_option maxRecDepth 100000 in
theorem m_X5_meets : q_okm iX5_meets 1 := ⟨q_t 689 rfl rfl, q_t 8 rfl rfl, ⟨by decide +kernel, by decide +kernel, by decide +kernel⟩, by decide +kernel, rfl⟩
set_option maxRecDepth 100000 in
theorem k_X5_meets : q_oki iX5_meets := ⟨q_t 688 rfl rfl, q_s 49 rfl rfl, ⟨_, _, rfl⟩⟩
set_option maxRecDepth 100000 in
theorem m_X5_isSheet : q_okm iX5_isSheet 1 := ⟨q_t 685 rfl rfl, q_t 8 rfl rfl, ⟨by decide +kernel, by decide +kernel, by decide +kernel⟩, by decide +kernel, rfl⟩
set_option maxRecDepth 100000 in
theorem k_X5_isSheet : Cond.static (mY iX5_isSheet) ∈ q_tbl := q_t 684 rfl rfl
set_option maxRecDepth 100000 in
theorem m_X5_sheet : q_okm iX5_sheet 3 := ⟨q_t 878 rfl rfl, q_t 8 rfl rfl, ⟨by decide +kernel, by decide +kernel, by decide +kernel⟩, by decide +kernel, rfl⟩
set_option maxRecDepth 100000 in
theorem k_X5_sheet : q_oki iX5_sheet := ⟨q_t 876 rfl rfl, q_t 877 rfl rfl, ⟨_, _, rfl⟩⟩
set_option maxRecDepth 100000 in
theorem m_X5_lose : q_okm iX5_lose 1 := ⟨q_t 882 rfl rfl, q_t 8 rfl rfl, ⟨by decide +kernel, by decide +kernel, by decide +kernel⟩, by decide +kernel, rfl⟩
set_option maxRecDepth 100000 in
theorem k_X5_lose : q_oki iX5_lose := ⟨q_t 880 rfl rfl, q_t 881 rfl rfl, ⟨_, _, rfl⟩⟩
set_option maxRecDepth 100000 in
theorem m_X5_lacks : q_okm iX5_lacks 3 := ⟨q_t 890 rfl rfl, q_t 8 rfl rfl, ⟨by decide +kernel, by decide +kernel, by decide +kernel⟩, by decide +kernel, rfl⟩
set_option maxRecDepth 100000 in
theorem k_X5_lacks : q_oki iX5_lacks := ⟨q_t 889 rfl rfl, q_s 72 rfl rfl, ⟨_, _, rfl⟩⟩
set_option maxRecDepth 100000 in
theorem m_X5_keep : q_okm iX5_keep 3 := ⟨q_t 894 rfl rfl, q_t 8 rfl rfl, ⟨by decide +kernel, by decide +kernel, by decide +kernel⟩, by decide +kernel, rfl⟩
set_option maxRecDepth 100000 in
theorem k_X5_keep : q_oki iX5_keep := ⟨q_t 893 rfl rfl, q_s 73 rfl rfl, ⟨_, _, rfl⟩⟩
set_option maxRecDepth 100000 in
theorem m_X5_put : q_okm iX5_put 4 := ⟨q_t 886 rfl rfl, q_t 8 rfl rfl, ⟨by decide +kernel, by decide +kernel, by decide +kernel⟩, by decide +kernel, rfl⟩
set_option maxRecDepth 100000 in
theorem k_X5_put : q_oki iX5_put := ⟨q_t 884 rfl rfl, q_t 885 rfl rfl, ⟨_, _, rfl⟩⟩
set_option maxRecDepth 100000 in
theorem m_X5_get : q_okm iX5_get 3 := ⟨q_t 898 rfl rfl, q_t 8 rfl rfl, ⟨by decide +kernel, by decide +kernel, by decide +kernel⟩, by decide +kernel, rfl⟩
set_option maxRecDepth 100000 in
theorem k_X5_get : q_oki iX5_get := ⟨q_t 896 rfl rfl, q_t 897 rfl rfl, ⟨_, _, rfl⟩⟩
set_option maxRecDepth 100000 in
theorem m_X5_copy : q_okm iX5_copy 5 := ⟨q_t 903 rfl rfl, q_t 8 rfl rfl, ⟨by decide +kernel, by decide +kernel, by decide +kernel⟩, by decide +kernel, rfl⟩
set_option maxRecDepth 100000 in
theorem k_X5_copy : q_oki iX5_copy := ⟨q_t 901 rfl rfl, q_t 902 rfl rfl, ⟨_, _, rfl⟩⟩
set_option maxRecDepth 100000 in
theorem m_X5_write : q_okm iX5_write 1 := ⟨q_t 907 rfl rfl, q_t 8 rfl rfl, ⟨by decide +kernel, by decide +kernel, by decide +kernel⟩, by decide +kernel, rfl⟩
set_option maxRecDepth 100000 in
theorem k_X5_write : q_oki iX5_write := ⟨q_t 905 rfl rfl, q_t 906 rfl rfl, ⟨_, _, rfl⟩⟩
set_option maxRecDepth 100000 in
theorem m_X5_sumOf : q_okm iX5_sumOf 1 := ⟨q_t 915 rfl rfl, q_t 8 rfl rfl, ⟨by decide +kernel, by decide +kernel, by decide +kernel⟩, by decide +kernel, rfl⟩
set_option maxRecDepth 100000 in
theorem k_X5_sumOf : q_oki iX5_sumOf := ⟨q_t 914 rfl rfl, q_s 74 rfl rfl, ⟨_, _, rfl⟩⟩
set_option maxRecDepth 100000 in
theorem m_X5_count : q_okm iX5_count 1 := ⟨q_t 911 rfl rfl, q_t 8 rfl rfl, ⟨by decide +kernel, by decide +kernel, by decide +kernel⟩, by decide +kernel, rfl⟩
set_option maxRecDepth 100000 in
theorem k_X5_count : q_oki iX5_count := ⟨q_t 909 rfl rfl, q_t 910 rfl rfl, ⟨_, _, rfl⟩⟩
set_option maxRecDepth 100000 in
theorem m_X5_digest : q_okm iX5_digest 0 := ⟨q_t 919 rfl rfl, q_t 8 rfl rfl, ⟨by decide +kernel, by decide +kernel, by decide +kernel⟩, by decide +kernel, rfl⟩
set_option maxRecDepth 100000 in
theorem k_X5_digest : q_oki iX5_digest := ⟨q_t 917 rfl rfl, q_t 918 rfl rfl, ⟨_, _, rfl⟩⟩
set_option maxRecDepth 100000 in
theorem m_J6_bitCount_0f7a4 : q_okm iJ6_bitCount_0f7a4 1 := ⟨q_t 355 rfl rfl, q_t 9 rfl rfl, ⟨by decide +kernel, by decide +kernel, by decide +kernel⟩, by decide +kernel, rfl⟩
set_option maxRecDepth 100000 in
theorem k_J6_bitCount_0f7a4 : Cond.static (mY iJ6_bitCount_0f7a4) ∈ q_tbl := q_t 354 rfl rfl
set_option maxRecDepth 100000 in
theorem m_J7_fill_53178 : q_okm iJ7_fill_53178 2 := ⟨q_t 98 rfl rfl, q_t 6 rfl rfl, ⟨by decide +kernel, by decide +kernel, by decide +kernel⟩, by decide +kernel, rfl⟩
set_option maxRecDepth 100000 in
theorem k_J7_fill_53178 : Cond.static (mY iJ7_fill_53178) ∈ q_tbl := q_t 97 rfl rfl
def q_okc (cn idx : Nat) (v : Nat × qI × Nat) : Prop := q_okm v.2.1 v.2.2 ∧ (v.1 ≤ 1 → Cond.static (mY v.2.1) ∈ q_tbl) ∧ (2 ≤ v.1 → q_oki v.2.1) ∧ (v.1 = 0 ∨ v.1 = 2 → Cond.methodLink (q_nm cn) idx (mY v.2.1) ∈ q_tbl) ∧ (v.1 = 0 ∨ v.1 = 2 ∨ (q_nm cn, idx, mY v.2.1) ∈ q_nM)
theorem q_okc0 {cn idx n : Nat} {I : qI} (hm : q_okm I n) (hs : Cond.static (mY I) ∈ q_tbl) (hl : Cond.methodLink (q_nm cn) idx (mY I) ∈ q_tbl) : q_okc cn idx (0, I, n) := ⟨hm, fun _ => hs, fun h => absurd h (show ¬ (2 ≤ 0) by decide), fun _ => hl, Or.inl rfl⟩
theorem q_okc2 {cn idx n : Nat} {I : qI} (hm : q_okm I n) (hs : q_oki I) (hl : Cond.methodLink (q_nm cn) idx (mY I) ∈ q_tbl) : q_okc cn idx (2, I, n) := ⟨hm, fun h => absurd h (show ¬ (2 ≤ 1) by decide), fun _ => hs, fun _ => hl, Or.inr (Or.inl rfl)⟩
theorem q_okc1 {cn idx n : Nat} {I : qI} (hm : q_okm I n) (hs : Cond.static (mY I) ∈ q_tbl) (hl : (q_nm cn, idx, mY I) ∈ q_nM) : q_okc cn idx (1, I, n) := ⟨hm, fun _ => hs, fun h => absurd h (show ¬ (2 ≤ 1) by decide), (fun h => (by rcases h with h | h <;> cases h)), Or.inr (Or.inr hl)⟩
theorem q_okc3 {cn idx n : Nat} {I : qI} (hm : q_okm I n) (hs : q_oki I) (hl : (q_nm cn, idx, mY I) ∈ q_nM) : q_okc cn idx (3, I, n) := ⟨hm, fun h => absurd h (show ¬ (3 ≤ 1) by decide), fun _ => hs, (fun h => (by rcases h with h | h <;> cases h)), Or.inr (Or.inr hl)⟩
set_option maxRecDepth 100000 in
theorem q_calls_0 : ∀ q ∈ q_calls 0, q_okc 0 q.1 q.2 := List.forall_mem_cons.mpr ⟨q_okc0 m_J7_fill_53178 k_J7_fill_53178 (q_t 482 rfl rfl), List.forall_mem_cons.mpr ⟨q_okc1 m_X4_lay k_X4_lay (List.mem_of_getElem? (i := 23) rfl), fun _ h => absurd h List.not_mem_nil⟩⟩
set_option maxRecDepth 100000 in
theorem q_calls_1 : ∀ q ∈ q_calls 1, q_okc 1 q.1 q.2 := List.forall_mem_cons.mpr ⟨q_okc1 m_X4_lay k_X4_lay (List.mem_of_getElem? (i := 16) rfl), List.forall_mem_cons.mpr ⟨q_okc1 m_X4_at k_X4_at (List.mem_of_getElem? (i := 13) rfl), fun _ h => absurd h List.not_mem_nil⟩⟩
set_option maxRecDepth 100000 in
theorem q_calls_2 : ∀ q ∈ q_calls 2, q_okc 2 q.1 q.2 := List.forall_mem_cons.mpr ⟨q_okc2 m_X2_hasRoom k_X2_hasRoom (q_t 181 rfl rfl), List.forall_mem_cons.mpr ⟨q_okc1 m_X4_lay k_X4_lay (List.mem_of_getElem? (i := 7) rfl), fun _ h => absurd h List.not_mem_nil⟩⟩
set_option maxRecDepth 100000 in
theorem q_calls_3 : ∀ q ∈ q_calls 3, q_okc 3 q.1 q.2 := List.forall_mem_cons.mpr ⟨q_okc1 m_X4_isWithin k_X4_isWithin (List.mem_of_getElem? (i := 18) rfl), List.forall_mem_cons.mpr ⟨q_okc2 m_X3_firstFault k_X3_firstFault (q_t 193 rfl rfl), List.forall_mem_cons.mpr ⟨q_okc0 m_J7_fill_53178 k_J7_fill_53178 (q_t 203 rfl rfl), List.forall_mem_cons.mpr ⟨q_okc1 m_X4_at k_X4_at (List.mem_of_getElem? (i := 9) rfl), List.forall_mem_cons.mpr ⟨q_okc1 m_X4_lay k_X4_lay (List.mem_of_getElem? (i := 11) rfl), List.forall_mem_cons.mpr ⟨q_okc1 m_X4_isLetter k_X4_isLetter (List.mem_of_getElem? (i := 10) rfl), fun _ h => absurd h List.not_mem_nil⟩⟩⟩⟩⟩⟩
set_option maxRecDepth 100000 in
theorem q_calls_4 : ∀ q ∈ q_calls 4, q_okc 4 q.1 q.2 := List.forall_mem_cons.mpr ⟨q_okc0 m_J7_fill_53178 k_J7_fill_53178 (q_t 96 rfl rfl), List.forall_mem_cons.mpr ⟨q_okc2 m_X4_textAt k_X4_textAt (q_t 166 rfl rfl), List.forall_mem_cons.mpr ⟨q_okc0 m_X4_isWithin k_X4_isWithin (q_t 170 rfl rfl), List.forall_mem_cons.mpr ⟨q_okc3 m_X2_hasRoom k_X2_hasRoom (List.mem_of_getElem? (i := 5) rfl), List.forall_mem_cons.mpr ⟨q_okc3 m_X2_append k_X2_append (List.mem_of_getElem? (i := 6) rfl), List.forall_mem_cons.mpr ⟨q_okc2 m_X4_layTexts k_X4_layTexts (q_t 185 rfl rfl), List.forall_mem_cons.mpr ⟨q_okc2 m_X4_pageFault k_X4_pageFault (q_t 209 rfl rfl), List.forall_mem_cons.mpr ⟨q_okc0 m_X4_isSign k_X4_isSign (q_t 237 rfl rfl), List.forall_mem_cons.mpr ⟨q_okc0 m_X4_at k_X4_at (q_t 213 rfl rfl), List.forall_mem_cons.mpr ⟨q_okc0 m_X4_lay k_X4_lay (q_t 224 rfl rfl), List.forall_mem_cons.mpr ⟨q_okc2 m_X4_layCells k_X4_layCells (q_t 205 rfl rfl), List.forall_mem_cons.mpr ⟨q_okc2 m_X4_sheetAt k_X4_sheetAt (q_t 244 rfl rfl), List.forall_mem_cons.mpr ⟨q_okc3 m_X0_isLost k_X0_isLost (List.mem_of_getElem? (i := 14) rfl), List.forall_mem_cons.mpr ⟨q_okc2 m_X4_find k_X4_find (q_t 252 rfl rfl), List.forall_mem_cons.mpr ⟨q_okc3 m_X1_add k_X1_add (List.mem_of_getElem? (i := 15) rfl), List.forall_mem_cons.mpr ⟨q_okc2 m_X4_isCell k_X4_isCell (q_t 281 rfl rfl), List.forall_mem_cons.mpr ⟨q_okc2 m_X4_readingOf k_X4_readingOf (q_t 289 rfl rfl), List.forall_mem_cons.mpr ⟨q_okc0 m_X4_swapColumns k_X4_swapColumns (q_t 301 rfl rfl), List.forall_mem_cons.mpr ⟨q_okc3 m_X3_has k_X3_has (List.mem_of_getElem? (i := 17) rfl), List.forall_mem_cons.mpr ⟨q_okc2 m_X4_wordsBothWays k_X4_wordsBothWays (q_t 317 rfl rfl), List.forall_mem_cons.mpr ⟨q_okc2 m_X4_wordFromBehind k_X4_wordFromBehind (q_t 321 rfl rfl), List.forall_mem_cons.mpr ⟨q_okc2 m_X4_costAt k_X4_costAt (q_t 345 rfl rfl), List.forall_mem_cons.mpr ⟨q_okc2 m_X4_cheapestAt k_X4_cheapestAt (q_t 363 rfl rfl), List.forall_mem_cons.mpr ⟨q_okc2 m_X4_bestLine k_X4_bestLine (q_t 375 rfl rfl), List.forall_mem_cons.mpr ⟨q_okc0 m_X4_isOnePointLess k_X4_isOnePointLess (q_t 390 rfl rfl), List.forall_mem_cons.mpr ⟨q_okc0 m_J6_bitCount_0f7a4 k_J6_bitCount_0f7a4 (q_t 353 rfl rfl), List.forall_mem_cons.mpr ⟨q_okc2 m_X4_isApartFromOthers k_X4_isApartFromOthers (q_t 397 rfl rfl), List.forall_mem_cons.mpr ⟨q_okc2 m_X4_freeSigns k_X4_freeSigns (q_t 405 rfl rfl), List.forall_mem_cons.mpr ⟨q_okc2 m_X4_shortened k_X4_shortened (q_t 409 rfl rfl), List.forall_mem_cons.mpr ⟨q_okc2 m_X4_savedBy k_X4_savedBy (q_t 417 rfl rfl), List.forall_mem_cons.mpr ⟨q_okc2 m_X4_lieTogether k_X4_lieTogether (q_t 425 rfl rfl), List.forall_mem_cons.mpr ⟨q_okc2 m_X4_firstClash k_X4_firstClash (q_t 433 rfl rfl), List.forall_mem_cons.mpr ⟨q_okc2 m_X4_skippedAt k_X4_skippedAt (q_t 445 rfl rfl), List.forall_mem_cons.mpr ⟨q_okc2 m_X4_skippedBy k_X4_skippedBy (q_t 449 rfl rfl), List.forall_mem_cons.mpr ⟨q_okc2 m_X4_wearDown k_X4_wearDown (q_t 457 rfl rfl), List.forall_mem_cons.mpr ⟨q_okc0 m_X4_pointsOf k_X4_pointsOf (q_t 468 rfl rfl), List.forall_mem_cons.mpr ⟨q_okc0 m_X4_isForm k_X4_isForm (q_t 475 rfl rfl), List.forall_mem_cons.mpr ⟨q_okc3 m_X0_renew k_X0_renew (List.mem_of_getElem? (i := 21) rfl), List.forall_mem_cons.mpr ⟨q_okc0 m_X4_itemFinding k_X4_itemFinding (q_t 491 rfl rfl), List.forall_mem_cons.mpr ⟨q_okc3 m_X0_store k_X0_store (List.mem_of_getElem? (i := 22) rfl), List.forall_mem_cons.mpr ⟨q_okc3 m_X0_hasStretch k_X0_hasStretch (List.mem_of_getElem? (i := 24) rfl), List.forall_mem_cons.mpr ⟨q_okc2 m_X4_cellsOfLetters k_X4_cellsOfLetters (q_t 523 rfl rfl), List.forall_mem_cons.mpr ⟨q_okc2 m_X4_count k_X4_count (q_t 532 rfl rfl), List.forall_mem_cons.mpr ⟨q_okc0 m_X4_mix k_X4_mix (q_t 533 rfl rfl), List.forall_mem_cons.mpr ⟨q_okc2 m_X4_fault k_X4_fault (q_t 537 rfl rfl), List.forall_mem_cons.mpr ⟨q_okc2 m_X4_judged k_X4_judged (q_t 538 rfl rfl), List.forall_mem_cons.mpr ⟨q_okc2 m_X4_mixCells k_X4_mixCells (q_t 539 rfl rfl), List.forall_mem_cons.mpr ⟨q_okc2 m_X4_mixWords k_X4_mixWords (q_t 548 rfl rfl), List.forall_mem_cons.mpr ⟨q_okc2 m_X4_both k_X4_both (q_t 552 rfl rfl), List.forall_mem_cons.mpr ⟨q_okc2 m_X4_line k_X4_line (q_t 555 rfl rfl), List.forall_mem_cons.mpr ⟨q_okc2 m_X4_slippery k_X4_slippery (q_t 556 rfl rfl), List.forall_mem_cons.mpr ⟨q_okc2 m_X4_better k_X4_better (q_t 557 rfl rfl), List.forall_mem_cons.mpr ⟨q_okc2 m_X4_shorts k_X4_shorts (q_t 558 rfl rfl), List.forall_mem_cons.mpr ⟨q_okc2 m_X4_whose k_X4_whose (q_t 559 rfl rfl), List.forall_mem_cons.mpr ⟨q_okc2 m_X4_wear k_X4_wear (q_t 560 rfl rfl), List.forall_mem_cons.mpr ⟨q_okc2 m_X4_cell k_X4_cell (q_t 543 rfl rfl), List.forall_mem_cons.mpr ⟨q_okc2 m_X4_letter k_X4_letter (q_t 544 rfl rfl), List.forall_mem_cons.mpr ⟨q_okc2 m_X4_wrong k_X4_wrong (q_t 545 rfl rfl), List.forall_mem_cons.mpr ⟨q_okc2 m_X4_meant k_X4_meant (q_t 546 rfl rfl), List.forall_mem_cons.mpr ⟨q_okc2 m_X4_within k_X4_within (q_t 547 rfl rfl), List.forall_mem_cons.mpr ⟨q_okc2 m_X4_fits k_X4_fits (q_t 553 rfl rfl), List.forall_mem_cons.mpr ⟨q_okc2 m_X4_under k_X4_under (q_t 554 rfl rfl), List.forall_mem_cons.mpr ⟨q_okc0 m_X4_isLetter k_X4_isLetter (q_t 214 rfl rfl), List.forall_mem_cons.mpr ⟨q_okc3 m_X3_split k_X3_split (List.mem_of_getElem? (i := 8) rfl), List.forall_mem_cons.mpr ⟨q_okc2 m_X4_printedAt k_X4_printedAt (q_t 215 rfl rfl), List.forall_mem_cons.mpr ⟨q_okc3 m_X1_pointsAt k_X1_pointsAt (List.mem_of_getElem? (i := 12) rfl), List.forall_mem_cons.mpr ⟨q_okc3 m_X3_letterOf k_X3_letterOf (List.mem_of_getElem? (i := 20) rfl), List.forall_mem_cons.mpr ⟨q_okc2 m_X4_isReadFromBehindAs k_X4_isReadFromBehindAs (q_t 325 rfl rfl), List.forall_mem_cons.mpr ⟨q_okc3 m_X3_lettersOf k_X3_lettersOf (List.mem_of_getElem? (i := 19) rfl), List.forall_mem_cons.mpr ⟨q_okc2 m_X4_signOf k_X4_signOf (q_t 333 rfl rfl), List.forall_mem_cons.mpr ⟨q_okc2 m_X4_hasCellsFor k_X4_hasCellsFor (q_t 349 rfl rfl), List.forall_mem_cons.mpr ⟨q_okc2 m_X4_bestBehindWord k_X4_bestBehindWord (q_t 379 rfl rfl), List.forall_mem_cons.mpr ⟨q_okc2 m_X4_mostSavingBut k_X4_mostSavingBut (q_t 413 rfl rfl), List.forall_mem_cons.mpr ⟨q_okc2 m_X4_nextRaised k_X4_nextRaised (q_t 461 rfl rfl), List.forall_mem_cons.mpr ⟨q_okc0 m_X4_withoutGreatestPoint k_X4_withoutGreatestPoint (q_t 465 rfl rfl), fun _ h => absurd h List.not_mem_nil⟩⟩⟩⟩⟩⟩⟩⟩⟩⟩⟩⟩⟩⟩⟩⟩⟩⟩⟩⟩⟩⟩⟩⟩⟩⟩⟩⟩⟩⟩⟩⟩⟩⟩⟩⟩⟩⟩⟩⟩⟩⟩⟩⟩⟩⟩⟩⟩⟩⟩⟩⟩⟩⟩⟩⟩⟩⟩⟩⟩⟩⟩⟩⟩⟩⟩⟩⟩⟩⟩⟩⟩⟩⟩⟩
set_option maxRecDepth 100000 in
theorem q_calls_5 : ∀ q ∈ q_calls 5, q_okc 5 q.1 q.2 := List.forall_mem_cons.mpr ⟨q_okc0 m_X5_in k_X5_in (q_t 648 rfl rfl), List.forall_mem_cons.mpr ⟨q_okc2 m_X5_letterAt k_X5_letterAt (q_t 667 rfl rfl), List.forall_mem_cons.mpr ⟨q_okc2 m_X5_readsPage k_X5_readsPage (q_t 663 rfl rfl), List.forall_mem_cons.mpr ⟨q_okc2 m_X5_readsWords k_X5_readsWords (q_t 671 rfl rfl), List.forall_mem_cons.mpr ⟨q_okc2 m_X5_faultOf k_X5_faultOf (q_t 659 rfl rfl), List.forall_mem_cons.mpr ⟨q_okc2 m_X5_reads k_X5_reads (q_t 714 rfl rfl), List.forall_mem_cons.mpr ⟨q_okc0 m_X5_isSheet k_X5_isSheet (q_t 683 rfl rfl), List.forall_mem_cons.mpr ⟨q_okc2 m_X5_meets k_X5_meets (q_t 686 rfl rfl), List.forall_mem_cons.mpr ⟨q_okc2 m_X5_signOf k_X5_signOf (q_t 722 rfl rfl), List.forall_mem_cons.mpr ⟨q_okc2 m_X5_isCell k_X5_isCell (q_t 710 rfl rfl), List.forall_mem_cons.mpr ⟨q_okc2 m_X5_cellOf k_X5_cellOf (q_t 718 rfl rfl), List.forall_mem_cons.mpr ⟨q_okc2 m_X5_readAs k_X5_readAs (q_t 730 rfl rfl), List.forall_mem_cons.mpr ⟨q_okc2 m_X5_judgedNow k_X5_judgedNow (q_t 738 rfl rfl), List.forall_mem_cons.mpr ⟨q_okc0 m_X5_turned k_X5_turned (q_t 750 rfl rfl), List.forall_mem_cons.mpr ⟨q_okc2 m_X5_wrongOf k_X5_wrongOf (q_t 746 rfl rfl), List.forall_mem_cons.mpr ⟨q_okc2 m_X5_bothOf k_X5_bothOf (q_t 765 rfl rfl), List.forall_mem_cons.mpr ⟨q_okc2 m_X5_bothAll k_X5_bothAll (q_t 761 rfl rfl), List.forall_mem_cons.mpr ⟨q_okc2 m_X5_isWord k_X5_isWord (q_t 769 rfl rfl), List.forall_mem_cons.mpr ⟨q_okc0 m_X5_ones k_X5_ones (q_t 781 rfl rfl), List.forall_mem_cons.mpr ⟨q_okc2 m_X5_fitsOf k_X5_fitsOf (q_t 777 rfl rfl), List.forall_mem_cons.mpr ⟨q_okc2 m_X5_meantOf k_X5_meantOf (q_t 788 rfl rfl), List.forall_mem_cons.mpr ⟨q_okc2 m_X5_withinOf k_X5_withinOf (q_t 796 rfl rfl), List.forall_mem_cons.mpr ⟨q_okc2 m_X5_lineOf k_X5_lineOf (q_t 804 rfl rfl), List.forall_mem_cons.mpr ⟨q_okc0 m_X5_isLess k_X5_isLess (q_t 816 rfl rfl), List.forall_mem_cons.mpr ⟨q_okc2 m_X5_slipperyNow k_X5_slipperyNow (q_t 812 rfl rfl), List.forall_mem_cons.mpr ⟨q_okc2 m_X5_betterOf k_X5_betterOf (q_t 823 rfl rfl), List.forall_mem_cons.mpr ⟨q_okc2 m_X5_freeSigns k_X5_freeSigns (q_t 835 rfl rfl), List.forall_mem_cons.mpr ⟨q_okc2 m_X5_shortsOf k_X5_shortsOf (q_t 831 rfl rfl), List.forall_mem_cons.mpr ⟨q_okc2 m_X5_underOf k_X5_underOf (q_t 843 rfl rfl), List.forall_mem_cons.mpr ⟨q_okc2 m_X5_clashOf k_X5_clashOf (q_t 851 rfl rfl), List.forall_mem_cons.mpr ⟨q_okc2 m_X5_whoseNow k_X5_whoseNow (q_t 863 rfl rfl), List.forall_mem_cons.mpr ⟨q_okc2 m_X5_wearOf k_X5_wearOf (q_t 871 rfl rfl), List.forall_mem_cons.mpr ⟨q_okc2 m_X5_lacks k_X5_lacks (q_t 887 rfl rfl), List.forall_mem_cons.mpr ⟨q_okc2 m_X5_keep k_X5_keep (q_t 891 rfl rfl), List.forall_mem_cons.mpr ⟨q_okc2 m_X5_sumOf k_X5_sumOf (q_t 912 rfl rfl), List.forall_mem_cons.mpr ⟨q_okc2 m_X5_count k_X5_count (q_t 922 rfl rfl), fun _ h => absurd h List.not_mem_nil⟩⟩⟩⟩⟩⟩⟩⟩⟩⟩⟩⟩⟩⟩⟩⟩⟩⟩⟩⟩⟩⟩⟩⟩⟩⟩⟩⟩⟩⟩⟩⟩⟩⟩⟩⟩
set_option maxRecDepth 100000 in
theorem q_calls_6 : ∀ q ∈ q_calls 6, q_okc 6 q.1 q.2 := List.forall_mem_cons.mpr ⟨q_okc2 m_X4_type k_X4_type (q_t 162 rfl rfl), List.forall_mem_cons.mpr ⟨q_okc2 m_X5_type k_X5_type (q_t 644 rfl rfl), List.forall_mem_cons.mpr ⟨q_okc2 m_X4_wipe k_X4_wipe (q_t 225 rfl rfl), List.forall_mem_cons.mpr ⟨q_okc2 m_X5_wipe k_X5_wipe (q_t 651 rfl rfl), List.forall_mem_cons.mpr ⟨q_okc2 m_X4_fault k_X4_fault (q_t 229 rfl rfl), List.forall_mem_cons.mpr ⟨q_okc2 m_X5_fault k_X5_fault (q_t 655 rfl rfl), List.forall_mem_cons.mpr ⟨q_okc2 m_X4_sign k_X4_sign (q_t 233 rfl rfl), List.forall_mem_cons.mpr ⟨q_okc2 m_X5_sign k_X5_sign (q_t 675 rfl rfl), List.forall_mem_cons.mpr ⟨q_okc2 m_X4_read k_X4_read (q_t 240 rfl rfl), List.forall_mem_cons.mpr ⟨q_okc2 m_X5_read k_X5_read (q_t 679 rfl rfl), List.forall_mem_cons.mpr ⟨q_okc2 m_X4_slip k_X4_slip (q_t 256 rfl rfl), List.forall_mem_cons.mpr ⟨q_okc2 m_X5_slip k_X5_slip (q_t 690 rfl rfl), List.forall_mem_cons.mpr ⟨q_okc2 m_X4_undo k_X4_undo (q_t 265 rfl rfl), List.forall_mem_cons.mpr ⟨q_okc2 m_X5_undo k_X5_undo (q_t 694 rfl rfl), List.forall_mem_cons.mpr ⟨q_okc2 m_X4_set k_X4_set (q_t 269 rfl rfl), List.forall_mem_cons.mpr ⟨q_okc2 m_X5_set k_X5_set (q_t 698 rfl rfl), List.forall_mem_cons.mpr ⟨q_okc2 m_X4_often k_X4_often (q_t 273 rfl rfl), List.forall_mem_cons.mpr ⟨q_okc2 m_X5_often k_X5_often (q_t 702 rfl rfl), List.forall_mem_cons.mpr ⟨q_okc2 m_X4_cell k_X4_cell (q_t 277 rfl rfl), List.forall_mem_cons.mpr ⟨q_okc2 m_X5_cell k_X5_cell (q_t 706 rfl rfl), List.forall_mem_cons.mpr ⟨q_okc2 m_X4_letter k_X4_letter (q_t 285 rfl rfl), List.forall_mem_cons.mpr ⟨q_okc2 m_X5_letter k_X5_letter (q_t 726 rfl rfl), List.forall_mem_cons.mpr ⟨q_okc2 m_X4_judged k_X4_judged (q_t 293 rfl rfl), List.forall_mem_cons.mpr ⟨q_okc2 m_X5_judged k_X5_judged (q_t 734 rfl rfl), List.forall_mem_cons.mpr ⟨q_okc2 m_X4_wrong k_X4_wrong (q_t 297 rfl rfl), List.forall_mem_cons.mpr ⟨q_okc2 m_X5_wrong k_X5_wrong (q_t 742 rfl rfl), List.forall_mem_cons.mpr ⟨q_okc2 m_X4_mirrored k_X4_mirrored (q_t 304 rfl rfl), List.forall_mem_cons.mpr ⟨q_okc2 m_X5_mirrored k_X5_mirrored (q_t 753 rfl rfl), List.forall_mem_cons.mpr ⟨q_okc2 m_X4_both k_X4_both (q_t 308 rfl rfl), List.forall_mem_cons.mpr ⟨q_okc2 m_X5_both k_X5_both (q_t 757 rfl rfl), List.forall_mem_cons.mpr ⟨q_okc2 m_X4_fits k_X4_fits (q_t 341 rfl rfl), List.forall_mem_cons.mpr ⟨q_okc2 m_X5_fits k_X5_fits (q_t 773 rfl rfl), List.forall_mem_cons.mpr ⟨q_okc2 m_X4_meant k_X4_meant (q_t 359 rfl rfl), List.forall_mem_cons.mpr ⟨q_okc2 m_X5_meant k_X5_meant (q_t 784 rfl rfl), List.forall_mem_cons.mpr ⟨q_okc2 m_X4_within k_X4_within (q_t 367 rfl rfl), List.forall_mem_cons.mpr ⟨q_okc2 m_X5_within k_X5_within (q_t 792 rfl rfl), List.forall_mem_cons.mpr ⟨q_okc2 m_X4_line k_X4_line (q_t 371 rfl rfl), List.forall_mem_cons.mpr ⟨q_okc2 m_X5_line k_X5_line (q_t 800 rfl rfl), List.forall_mem_cons.mpr ⟨q_okc2 m_X4_slippery k_X4_slippery (q_t 386 rfl rfl), List.forall_mem_cons.mpr ⟨q_okc2 m_X5_slippery k_X5_slippery (q_t 808 rfl rfl), List.forall_mem_cons.mpr ⟨q_okc2 m_X4_better k_X4_better (q_t 393 rfl rfl), List.forall_mem_cons.mpr ⟨q_okc2 m_X5_better k_X5_better (q_t 819 rfl rfl), List.forall_mem_cons.mpr ⟨q_okc2 m_X4_shorts k_X4_shorts (q_t 401 rfl rfl), List.forall_mem_cons.mpr ⟨q_okc2 m_X5_shorts k_X5_shorts (q_t 827 rfl rfl), List.forall_mem_cons.mpr ⟨q_okc2 m_X4_under k_X4_under (q_t 421 rfl rfl), List.forall_mem_cons.mpr ⟨q_okc2 m_X5_under k_X5_under (q_t 839 rfl rfl), List.forall_mem_cons.mpr ⟨q_okc2 m_X4_clash k_X4_clash (q_t 429 rfl rfl), List.forall_mem_cons.mpr ⟨q_okc2 m_X5_clash k_X5_clash (q_t 847 rfl rfl), List.forall_mem_cons.mpr ⟨q_okc2 m_X4_hand k_X4_hand (q_t 437 rfl rfl), List.forall_mem_cons.mpr ⟨q_okc2 m_X5_hand k_X5_hand (q_t 855 rfl rfl), List.forall_mem_cons.mpr ⟨q_okc2 m_X4_whose k_X4_whose (q_t 441 rfl rfl), List.forall_mem_cons.mpr ⟨q_okc2 m_X5_whose k_X5_whose (q_t 859 rfl rfl), List.forall_mem_cons.mpr ⟨q_okc2 m_X4_wear k_X4_wear (q_t 453 rfl rfl), List.forall_mem_cons.mpr ⟨q_okc2 m_X5_wear k_X5_wear (q_t 867 rfl rfl), List.forall_mem_cons.mpr ⟨q_okc2 m_X4_sheet k_X4_sheet (q_t 471 rfl rfl), List.forall_mem_cons.mpr ⟨q_okc2 m_X5_sheet k_X5_sheet (q_t 875 rfl rfl), List.forall_mem_cons.mpr ⟨q_okc2 m_X4_lose k_X4_lose (q_t 483 rfl rfl), List.forall_mem_cons.mpr ⟨q_okc2 m_X5_lose k_X5_lose (q_t 879 rfl rfl), List.forall_mem_cons.mpr ⟨q_okc2 m_X4_put k_X4_put (q_t 487 rfl rfl), List.forall_mem_cons.mpr ⟨q_okc2 m_X5_put k_X5_put (q_t 883 rfl rfl), List.forall_mem_cons.mpr ⟨q_okc2 m_X4_get k_X4_get (q_t 499 rfl rfl), List.forall_mem_cons.mpr ⟨q_okc2 m_X5_get k_X5_get (q_t 895 rfl rfl), List.forall_mem_cons.mpr ⟨q_okc2 m_X4_copy k_X4_copy (q_t 504 rfl rfl), List.forall_mem_cons.mpr ⟨q_okc2 m_X5_copy k_X5_copy (q_t 900 rfl rfl), List.forall_mem_cons.mpr ⟨q_okc2 m_X4_write k_X4_write (q_t 515 rfl rfl), List.forall_mem_cons.mpr ⟨q_okc2 m_X5_write k_X5_write (q_t 904 rfl rfl), List.forall_mem_cons.mpr ⟨q_okc2 m_X4_count k_X4_count (q_t 519 rfl rfl), List.forall_mem_cons.mpr ⟨q_okc2 m_X5_count k_X5_count (q_t 908 rfl rfl), List.forall_mem_cons.mpr ⟨q_okc2 m_X4_digest k_X4_digest (q_t 527 rfl rfl), List.forall_mem_cons.mpr ⟨q_okc2 m_X5_digest k_X5_digest (q_t 916 rfl rfl), fun _ h => absurd h List.not_mem_nil⟩⟩⟩⟩⟩⟩⟩⟩⟩⟩⟩⟩⟩⟩⟩⟩⟩⟩⟩⟩⟩⟩⟩⟩⟩⟩⟩⟩⟩⟩⟩⟩⟩⟩⟩⟩⟩⟩⟩⟩⟩⟩⟩⟩⟩⟩⟩⟩⟩⟩⟩⟩⟩⟩⟩⟩⟩⟩⟩⟩⟩⟩⟩⟩⟩⟩⟩⟩⟩⟩
theorem q_calls_ok (cn : Nat) : ∀ q ∈ q_calls cn, q_okc cn q.1 q.2 := match cn with
  | 0 => q_calls_0
  | 1 => q_calls_1
  | 2 => q_calls_2
  | 3 => q_calls_3
  | 4 => q_calls_4
  | 5 => q_calls_5
  | 6 => q_calls_6
  | 7 => fun _ h => absurd h List.not_mem_nil
  | 8 => fun _ h => absurd h List.not_mem_nil
  | 9 => fun _ h => absurd h List.not_mem_nil
  | _ + 10 => fun _ h => absurd h List.not_mem_nil
theorem q_look {β : Type} {l : List (Nat × β)} {i : Nat} {v : β} (h : l.lookup i = some v) : (i, v) ∈ l := by
  induction l with
  | nil => simp at h
  | cons a t ih =>
    obtain ⟨k, u⟩ := a
    by_cases hk : i = k
    · subst hk
      simp [List.lookup] at h
      subst h
      exact List.mem_cons_self
    · have hb : (i == k) = false := by simp [hk]
      rw [List.lookup, hb] at h
      exact List.mem_cons_of_mem _ (ih h)
theorem q_call_ok {cn idx : Nat} {v : Nat × qI × Nat} (h : q_call cn idx = some v) : q_okc cn idx v := q_calls_ok cn (idx, v) (q_look h)
def q_okf (cn idx : Nat) (v : Nat × Nat × Nat) : Prop := ∃ C T N, q_cl[v.2.1]? = some (C, T, N) ∧ v.2.2 < N ∧ (v.1 = 0 → Cond.fieldLink (q_nm cn) idx (T v.2.2).1 (T v.2.2).2.1 (T v.2.2).2.2.1 ∈ q_tbl) ∧ (v.1 = 0 ∨ (q_nm cn, idx, (T v.2.2).1, (T v.2.2).2.1, (T v.2.2).2.2.1) ∈ q_nF)
set_option maxRecDepth 100000 in
theorem q_flds_0 : ∀ q ∈ q_flds 0, q_okf 0 q.1 q.2 := List.forall_mem_cons.mpr ⟨⟨_, _, _, rfl, by decide, fun _ => q_t 106 rfl rfl, Or.inl rfl⟩, List.forall_mem_cons.mpr ⟨⟨_, _, _, rfl, by decide, fun _ => q_t 108 rfl rfl, Or.inl rfl⟩, List.forall_mem_cons.mpr ⟨⟨_, _, _, rfl, by decide, fun _ => q_t 110 rfl rfl, Or.inl rfl⟩, fun _ h => absurd h List.not_mem_nil⟩⟩⟩
set_option maxRecDepth 100000 in
theorem q_flds_1 : ∀ q ∈ q_flds 1, q_okf 1 q.1 q.2 := List.forall_mem_cons.mpr ⟨⟨_, _, _, rfl, by decide, fun _ => q_t 73 rfl rfl, Or.inl rfl⟩, List.forall_mem_cons.mpr ⟨⟨_, _, _, rfl, by decide, fun _ => q_t 74 rfl rfl, Or.inl rfl⟩, List.forall_mem_cons.mpr ⟨⟨_, _, _, rfl, by decide, fun _ => q_t 75 rfl rfl, Or.inl rfl⟩, List.forall_mem_cons.mpr ⟨⟨_, _, _, rfl, by decide, fun _ => q_t 76 rfl rfl, Or.inl rfl⟩, fun _ h => absurd h List.not_mem_nil⟩⟩⟩⟩
set_option maxRecDepth 100000 in
theorem q_flds_2 : ∀ q ∈ q_flds 2, q_okf 2 q.1 q.2 := List.forall_mem_cons.mpr ⟨⟨_, _, _, rfl, by decide, fun _ => q_t 28 rfl rfl, Or.inl rfl⟩, List.forall_mem_cons.mpr ⟨⟨_, _, _, rfl, by decide, fun _ => q_t 31 rfl rfl, Or.inl rfl⟩, fun _ h => absurd h List.not_mem_nil⟩⟩
set_option maxRecDepth 100000 in
theorem q_flds_3 : ∀ q ∈ q_flds 3, q_okf 3 q.1 q.2 := List.forall_mem_cons.mpr ⟨⟨_, _, _, rfl, by decide, fun _ => q_t 48 rfl rfl, Or.inl rfl⟩, List.forall_mem_cons.mpr ⟨⟨_, _, _, rfl, by decide, fun _ => q_t 50 rfl rfl, Or.inl rfl⟩, List.forall_mem_cons.mpr ⟨⟨_, _, _, rfl, by decide, fun _ => q_t 51 rfl rfl, Or.inl rfl⟩, List.forall_mem_cons.mpr ⟨⟨_, _, _, rfl, by decide, fun _ => q_t 54 rfl rfl, Or.inl rfl⟩, List.forall_mem_cons.mpr ⟨⟨_, _, _, rfl, by decide, fun _ => q_t 52 rfl rfl, Or.inl rfl⟩, List.forall_mem_cons.mpr ⟨⟨_, _, _, rfl, by decide, fun h => absurd h (by decide), Or.inr (List.mem_of_getElem? (i := 3) rfl)⟩, List.forall_mem_cons.mpr ⟨⟨_, _, _, rfl, by decide, fun h => absurd h (by decide), Or.inr (List.mem_of_getElem? (i := 0) rfl)⟩, fun _ h => absurd h List.not_mem_nil⟩⟩⟩⟩⟩⟩⟩
set_option maxRecDepth 100000 in
theorem q_flds_4 : ∀ q ∈ q_flds 4, q_okf 4 q.1 q.2 := List.forall_mem_cons.mpr ⟨⟨_, _, _, rfl, by decide, fun _ => q_t 119 rfl rfl, Or.inl rfl⟩, List.forall_mem_cons.mpr ⟨⟨_, _, _, rfl, by decide, fun _ => q_t 120 rfl rfl, Or.inl rfl⟩, List.forall_mem_cons.mpr ⟨⟨_, _, _, rfl, by decide, fun _ => q_t 121 rfl rfl, Or.inl rfl⟩, List.forall_mem_cons.mpr ⟨⟨_, _, _, rfl, by decide, fun _ => q_t 122 rfl rfl, Or.inl rfl⟩, List.forall_mem_cons.mpr ⟨⟨_, _, _, rfl, by decide, fun _ => q_t 123 rfl rfl, Or.inl rfl⟩, List.forall_mem_cons.mpr ⟨⟨_, _, _, rfl, by decide, fun _ => q_t 125 rfl rfl, Or.inl rfl⟩, List.forall_mem_cons.mpr ⟨⟨_, _, _, rfl, by decide, fun _ => q_t 126 rfl rfl, Or.inl rfl⟩, List.forall_mem_cons.mpr ⟨⟨_, _, _, rfl, by decide, fun _ => q_t 127 rfl rfl, Or.inl rfl⟩, List.forall_mem_cons.mpr ⟨⟨_, _, _, rfl, by decide, fun _ => q_t 128 rfl rfl, Or.inl rfl⟩, List.forall_mem_cons.mpr ⟨⟨_, _, _, rfl, by decide, fun _ => q_t 129 rfl rfl, Or.inl rfl⟩, List.forall_mem_cons.mpr ⟨⟨_, _, _, rfl, by decide, fun _ => q_t 131 rfl rfl, Or.inl rfl⟩, List.forall_mem_cons.mpr ⟨⟨_, _, _, rfl, by decide, fun _ => q_t 132 rfl rfl, Or.inl rfl⟩, List.forall_mem_cons.mpr ⟨⟨_, _, _, rfl, by decide, fun h => absurd h (by decide), Or.inr (List.mem_of_getElem? (i := 2) rfl)⟩, List.forall_mem_cons.mpr ⟨⟨_, _, _, rfl, by decide, fun h => absurd h (by decide), Or.inr (List.mem_of_getElem? (i := 6) rfl)⟩, List.forall_mem_cons.mpr ⟨⟨_, _, _, rfl, by decide, fun h => absurd h (by decide), Or.inr (List.mem_of_getElem? (i := 10) rfl)⟩, List.forall_mem_cons.mpr ⟨⟨_, _, _, rfl, by decide, fun h => absurd h (by decide), Or.inr (List.mem_of_getElem? (i := 8) rfl)⟩, List.forall_mem_cons.mpr ⟨⟨_, _, _, rfl, by decide, fun h => absurd h (by decide), Or.inr (List.mem_of_getElem? (i := 7) rfl)⟩, List.forall_mem_cons.mpr ⟨⟨_, _, _, rfl, by decide, fun _ => q_t 124 rfl rfl, Or.inl rfl⟩, List.forall_mem_cons.mpr ⟨⟨_, _, _, rfl, by decide, fun h => absurd h (by decide), Or.inr (List.mem_of_getElem? (i := 5) rfl)⟩, List.forall_mem_cons.mpr ⟨⟨_, _, _, rfl, by decide, fun _ => q_t 130 rfl rfl, Or.inl rfl⟩, List.forall_mem_cons.mpr ⟨⟨_, _, _, rfl, by decide, fun h => absurd h (by decide), Or.inr (List.mem_of_getElem? (i := 9) rfl)⟩, List.forall_mem_cons.mpr ⟨⟨_, _, _, rfl, by decide, fun h => absurd h (by decide), Or.inr (List.mem_of_getElem? (i := 4) rfl)⟩, List.forall_mem_cons.mpr ⟨⟨_, _, _, rfl, by decide, fun h => absurd h (by decide), Or.inr (List.mem_of_getElem? (i := 1) rfl)⟩, fun _ h => absurd h List.not_mem_nil⟩⟩⟩⟩⟩⟩⟩⟩⟩⟩⟩⟩⟩⟩⟩⟩⟩⟩⟩⟩⟩⟩⟩
set_option maxRecDepth 100000 in
theorem q_flds_5 : ∀ q ∈ q_flds 5, q_okf 5 q.1 q.2 := List.forall_mem_cons.mpr ⟨⟨_, _, _, rfl, by decide, fun _ => q_t 567 rfl rfl, Or.inl rfl⟩, List.forall_mem_cons.mpr ⟨⟨_, _, _, rfl, by decide, fun _ => q_t 568 rfl rfl, Or.inl rfl⟩, List.forall_mem_cons.mpr ⟨⟨_, _, _, rfl, by decide, fun _ => q_t 569 rfl rfl, Or.inl rfl⟩, List.forall_mem_cons.mpr ⟨⟨_, _, _, rfl, by decide, fun _ => q_t 571 rfl rfl, Or.inl rfl⟩, List.forall_mem_cons.mpr ⟨⟨_, _, _, rfl, by decide, fun _ => q_t 573 rfl rfl, Or.inl rfl⟩, List.forall_mem_cons.mpr ⟨⟨_, _, _, rfl, by decide, fun _ => q_t 574 rfl rfl, Or.inl rfl⟩, List.forall_mem_cons.mpr ⟨⟨_, _, _, rfl, by decide, fun _ => q_t 577 rfl rfl, Or.inl rfl⟩, List.forall_mem_cons.mpr ⟨⟨_, _, _, rfl, by decide, fun _ => q_t 579 rfl rfl, Or.inl rfl⟩, List.forall_mem_cons.mpr ⟨⟨_, _, _, rfl, by decide, fun _ => q_t 580 rfl rfl, Or.inl rfl⟩, List.forall_mem_cons.mpr ⟨⟨_, _, _, rfl, by decide, fun _ => q_t 581 rfl rfl, Or.inl rfl⟩, List.forall_mem_cons.mpr ⟨⟨_, _, _, rfl, by decide, fun _ => q_t 582 rfl rfl, Or.inl rfl⟩, List.forall_mem_cons.mpr ⟨⟨_, _, _, rfl, by decide, fun _ => q_t 583 rfl rfl, Or.inl rfl⟩, List.forall_mem_cons.mpr ⟨⟨_, _, _, rfl, by decide, fun _ => q_t 584 rfl rfl, Or.inl rfl⟩, List.forall_mem_cons.mpr ⟨⟨_, _, _, rfl, by decide, fun _ => q_t 585 rfl rfl, Or.inl rfl⟩, List.forall_mem_cons.mpr ⟨⟨_, _, _, rfl, by decide, fun _ => q_t 586 rfl rfl, Or.inl rfl⟩, List.forall_mem_cons.mpr ⟨⟨_, _, _, rfl, by decide, fun _ => q_t 587 rfl rfl, Or.inl rfl⟩, List.forall_mem_cons.mpr ⟨⟨_, _, _, rfl, by decide, fun _ => q_t 588 rfl rfl, Or.inl rfl⟩, List.forall_mem_cons.mpr ⟨⟨_, _, _, rfl, by decide, fun _ => q_t 589 rfl rfl, Or.inl rfl⟩, List.forall_mem_cons.mpr ⟨⟨_, _, _, rfl, by decide, fun _ => q_t 590 rfl rfl, Or.inl rfl⟩, List.forall_mem_cons.mpr ⟨⟨_, _, _, rfl, by decide, fun _ => q_t 575 rfl rfl, Or.inl rfl⟩, List.forall_mem_cons.mpr ⟨⟨_, _, _, rfl, by decide, fun _ => q_t 576 rfl rfl, Or.inl rfl⟩, List.forall_mem_cons.mpr ⟨⟨_, _, _, rfl, by decide, fun _ => q_t 570 rfl rfl, Or.inl rfl⟩, List.forall_mem_cons.mpr ⟨⟨_, _, _, rfl, by decide, fun _ => q_t 572 rfl rfl, Or.inl rfl⟩, List.forall_mem_cons.mpr ⟨⟨_, _, _, rfl, by decide, fun _ => q_t 578 rfl rfl, Or.inl rfl⟩, List.forall_mem_cons.mpr ⟨⟨_, _, _, rfl, by decide, fun _ => q_t 591 rfl rfl, Or.inl rfl⟩, fun _ h => absurd h List.not_mem_nil⟩⟩⟩⟩⟩⟩⟩⟩⟩⟩⟩⟩⟩⟩⟩⟩⟩⟩⟩⟩⟩⟩⟩⟩⟩
theorem q_flds_ok (cn : Nat) : ∀ q ∈ q_flds cn, q_okf cn q.1 q.2 := match cn with
  | 0 => q_flds_0
  | 1 => q_flds_1
  | 2 => q_flds_2
  | 3 => q_flds_3
  | 4 => q_flds_4
  | 5 => q_flds_5
  | 6 => fun _ h => absurd h List.not_mem_nil
  | 7 => fun _ h => absurd h List.not_mem_nil
  | 8 => fun _ h => absurd h List.not_mem_nil
  | 9 => fun _ h => absurd h List.not_mem_nil
  | _ + 10 => fun _ h => absurd h List.not_mem_nil
theorem q_fl_ok {cn idx : Nat} {v : Nat × Nat × Nat} (h : q_fl cn idx = some v) : q_okf cn idx v := q_flds_ok cn (idx, v) (q_look h)
set_option maxRecDepth 100000 in
theorem q_ldc_ok {cn idx : Nat} {v : Int32} (h : q_ldc cn idx = some v) : Cond.constant (q_nm cn) idx v ∈ q_tbl := by
  unfold q_ldc at h
  split at h
  · cases h; exact q_t 356 rfl rfl
  · cases h; exact q_t 357 rfl rfl
  · cases h; exact q_t 358 rfl rfl
  · cases h; exact q_t 503 rfl rfl
  · cases h; exact q_t 899 rfl rfl
  · cases h
set_option maxRecDepth 100000 in
theorem q_ldl_ok {cn idx : Nat} {v : Int64} (h : q_ldl cn idx = some v) : Cond.constantLong (q_nm cn) idx v ∈ q_tbl := by
  unfold q_ldl at h
  split at h
  · cases h; exact q_t 531 rfl rfl
  · cases h; exact q_t 536 rfl rfl
  · cases h; exact q_t 920 rfl rfl
  · cases h; exact q_t 921 rfl rfl
  · cases h
theorem q_wr_ok {ci j : Nat} (h : q_wr ci j = true) : ∀ C T N, q_cl[ci]? = some (C, T, N) → (T j).2.2.2 = false ∧ (T j).2.2.1 = "I" := by
  intro C T N hc
  unfold q_wr at h
  split at h
  · cases hc; exact ⟨rfl, rfl⟩
  · cases hc; exact ⟨rfl, rfl⟩
  · cases hc; exact ⟨rfl, rfl⟩
  · cases hc; exact ⟨rfl, rfl⟩
  · cases hc; exact ⟨rfl, rfl⟩
  · cases hc; exact ⟨rfl, rfl⟩
  · cases hc; exact ⟨rfl, rfl⟩
  · cases hc; exact ⟨rfl, rfl⟩
  · cases hc; exact ⟨rfl, rfl⟩
  · cases hc; exact ⟨rfl, rfl⟩
  · cases hc; exact ⟨rfl, rfl⟩
  · cases hc; exact ⟨rfl, rfl⟩
  · cases hc; exact ⟨rfl, rfl⟩
  · cases hc; exact ⟨rfl, rfl⟩
  · cases hc; exact ⟨rfl, rfl⟩
  · cases hc; exact ⟨rfl, rfl⟩
  · cases h
def q_okk (C : String) (T : u_T) (N : Nat) : Prop := (∀ w ∈ u_ws C T N, w ∈ q_tbl) ∧ (∃ ty0 : Nat → FieldType, ∀ k, k < N → parseFieldDescriptor (T k).2.2.1 = some (ty0 k)) ∧ (∀ a, a < N → ∀ b, b < N → a ≠ b → (T a).2.1 ≠ (T b).2.1)
set_option maxRecDepth 100000 in
theorem q_ws_0 : ∀ w ∈ u_ws RX0 TX0 3, w ∈ q_tbl := List.forall_mem_cons.mpr ⟨q_t 112 rfl rfl, List.forall_mem_cons.mpr ⟨q_t 114 rfl rfl, List.forall_mem_cons.mpr ⟨q_t 116 rfl rfl, fun _ h => absurd h List.not_mem_nil⟩⟩⟩
set_option maxRecDepth 100000 in
theorem q_ws_1 : ∀ w ∈ u_ws RX1 TX1 4, w ∈ q_tbl := List.forall_mem_cons.mpr ⟨q_t 78 rfl rfl, List.forall_mem_cons.mpr ⟨q_t 80 rfl rfl, List.forall_mem_cons.mpr ⟨q_t 82 rfl rfl, List.forall_mem_cons.mpr ⟨q_t 84 rfl rfl, fun _ h => absurd h List.not_mem_nil⟩⟩⟩⟩
set_option maxRecDepth 100000 in
theorem q_ws_2 : ∀ w ∈ u_ws RX2 TX2 2, w ∈ q_tbl := List.forall_mem_cons.mpr ⟨q_t 34 rfl rfl, List.forall_mem_cons.mpr ⟨q_t 36 rfl rfl, fun _ h => absurd h List.not_mem_nil⟩⟩
set_option maxRecDepth 100000 in
theorem q_ws_3 : ∀ w ∈ u_ws RX3 TX3 5, w ∈ q_tbl := List.forall_mem_cons.mpr ⟨q_t 56 rfl rfl, List.forall_mem_cons.mpr ⟨q_t 58 rfl rfl, List.forall_mem_cons.mpr ⟨q_t 60 rfl rfl, List.forall_mem_cons.mpr ⟨q_t 62 rfl rfl, List.forall_mem_cons.mpr ⟨q_t 64 rfl rfl, fun _ h => absurd h List.not_mem_nil⟩⟩⟩⟩⟩
set_option maxRecDepth 100000 in
theorem q_ws_4 : ∀ w ∈ u_ws RX4 TX4 14, w ∈ q_tbl := List.forall_mem_cons.mpr ⟨q_t 133 rfl rfl, List.forall_mem_cons.mpr ⟨q_t 135 rfl rfl, List.forall_mem_cons.mpr ⟨q_t 137 rfl rfl, List.forall_mem_cons.mpr ⟨q_t 139 rfl rfl, List.forall_mem_cons.mpr ⟨q_t 141 rfl rfl, List.forall_mem_cons.mpr ⟨q_t 143 rfl rfl, List.forall_mem_cons.mpr ⟨q_t 145 rfl rfl, List.forall_mem_cons.mpr ⟨q_t 147 rfl rfl, List.forall_mem_cons.mpr ⟨q_t 149 rfl rfl, List.forall_mem_cons.mpr ⟨q_t 151 rfl rfl, List.forall_mem_cons.mpr ⟨q_t 153 rfl rfl, List.forall_mem_cons.mpr ⟨q_t 155 rfl rfl, List.forall_mem_cons.mpr ⟨q_t 157 rfl rfl, List.forall_mem_cons.mpr ⟨q_t 159 rfl rfl, fun _ h => absurd h List.not_mem_nil⟩⟩⟩⟩⟩⟩⟩⟩⟩⟩⟩⟩⟩⟩
set_option maxRecDepth 100000 in
theorem q_ws_5 : ∀ w ∈ u_ws RX5 TX5 25, w ∈ q_tbl := List.forall_mem_cons.mpr ⟨q_t 592 rfl rfl, List.forall_mem_cons.mpr ⟨q_t 594 rfl rfl, List.forall_mem_cons.mpr ⟨q_t 596 rfl rfl, List.forall_mem_cons.mpr ⟨q_t 598 rfl rfl, List.forall_mem_cons.mpr ⟨q_t 600 rfl rfl, List.forall_mem_cons.mpr ⟨q_t 602 rfl rfl, List.forall_mem_cons.mpr ⟨q_t 604 rfl rfl, List.forall_mem_cons.mpr ⟨q_t 606 rfl rfl, List.forall_mem_cons.mpr ⟨q_t 608 rfl rfl, List.forall_mem_cons.mpr ⟨q_t 610 rfl rfl, List.forall_mem_cons.mpr ⟨q_t 612 rfl rfl, List.forall_mem_cons.mpr ⟨q_t 614 rfl rfl, List.forall_mem_cons.mpr ⟨q_t 616 rfl rfl, List.forall_mem_cons.mpr ⟨q_t 618 rfl rfl, List.forall_mem_cons.mpr ⟨q_t 620 rfl rfl, List.forall_mem_cons.mpr ⟨q_t 622 rfl rfl, List.forall_mem_cons.mpr ⟨q_t 624 rfl rfl, List.forall_mem_cons.mpr ⟨q_t 626 rfl rfl, List.forall_mem_cons.mpr ⟨q_t 628 rfl rfl, List.forall_mem_cons.mpr ⟨q_t 630 rfl rfl, List.forall_mem_cons.mpr ⟨q_t 632 rfl rfl, List.forall_mem_cons.mpr ⟨q_t 634 rfl rfl, List.forall_mem_cons.mpr ⟨q_t 636 rfl rfl, List.forall_mem_cons.mpr ⟨q_t 638 rfl rfl, List.forall_mem_cons.mpr ⟨q_t 640 rfl rfl, fun _ h => absurd h List.not_mem_nil⟩⟩⟩⟩⟩⟩⟩⟩⟩⟩⟩⟩⟩⟩⟩⟩⟩⟩⟩⟩⟩⟩⟩⟩⟩
theorem q_cl_ok {ci : Nat} {C : String} {T : u_T} {N : Nat} (h : q_cl[ci]? = some (C, T, N)) : q_okk C T N := by
  match ci, h with
  | 0, h => cases h; exact ⟨q_ws_0, ⟨_, tyX0_ok⟩, nmX0⟩
  | 1, h => cases h; exact ⟨q_ws_1, ⟨_, tyX1_ok⟩, nmX1⟩
  | 2, h => cases h; exact ⟨q_ws_2, ⟨_, tyX2_ok⟩, nmX2⟩
  | 3, h => cases h; exact ⟨q_ws_3, ⟨_, tyX3_ok⟩, nmX3⟩
  | 4, h => cases h; exact ⟨q_ws_4, ⟨_, tyX4_ok⟩, nmX4⟩
  | 5, h => cases h; exact ⟨q_ws_5, ⟨_, tyX5_ok⟩, nmX5⟩
  | k + 6, h => simp [q_cl] at h
set_option maxRecDepth 100000 in
theorem q_mnw : Cond.methodLink (q_nm 4) 248 Lib.Math.min.name ∈ q_tbl ∧ Cond.static Lib.Math.min.name ∈ q_tbl ∧ Cond.initialized "java/lang/Math" ∈ q_tbl ∧ Cond.code Lib.Math.min.name Lib.Math.min.code 2 (some .int) ∈ q_tbl := ⟨q_t 383 rfl rfl, q_t 384 rfl rfl, q_t 3 rfl rfl, q_t 385 rfl rfl⟩
set_option maxRecDepth 100000 in
theorem q_acw : Cond.methodLink (q_nm 4) 242 arraycopyName ∈ q_tbl ∧ Cond.native arraycopyName ∈ q_tbl ∧ Cond.static arraycopyName ∈ q_tbl ∧ Cond.initialized "java/lang/System" ∈ q_tbl := ⟨q_t 512 rfl rfl, q_t 514 rfl rfl, q_t 513 rfl rfl, q_t 10 rfl rfl⟩
end
section
/-! the pure machine's cells in the heap, its locals in the frame -/
def q_iv (ad : Nat → Nat) (v : Value) : Value := match v with
  | .ref k => .ref (ad k)
  | v => v
theorem q_iv_cat (ad : Nat → Nat) (v : Value) : (q_iv ad v).category = v.category := by cases v <;> rfl
theorem q_iv_cats (ad : Nat → Nat) (r : List Value) : ((r.map (q_iv ad)).map fun v => v.category).sum = q_cat r := by
  unfold q_cat
  rw [List.map_map]
  congr 1
  apply List.map_congr_left
  intro v _
  exact q_iv_cat ad v
def q_fs (ad : Nat → Nat) (w : qW) (k : Nat) (fs : List (Option Nat)) : List Value := fs.mapIdx (fun j x => match x with
  | none => .int (w k j)
  | some r => .ref (ad r))
def q_en1 (ad : Nat → Nat) (cA : Nat → ClassId) (w : qW) (k : Nat) (x : qS) : va_E := match x with
  | .inl (t, n) => .inl (cA t, n, .inl (w k))
  | .inr (.inl (t, ks)) => .inl (cA t, ks.length, .inr (.inr (.inr (.inr (fun j => (ks[j]?).map ad)))))
  | .inr (.inr (ci, fs)) => .inr (ci, q_fs ad w k fs)
def q_ws (ad : Nat → Nat) (cA : Nat → ClassId) (sh : List qS) (w : qW) : va_W := sh.mapIdx (fun k x => (ad k, q_en1 ad cA w k x))
section QW
variable {ad : Nat → Nat} {cA : Nat → ClassId} {sh : List qS} {w w' : qW} {k : Nat} {x : qS}
theorem q_ws_at (h : sh[k]? = some x) : (q_ws ad cA sh w)[k]? = some (ad k, q_en1 ad cA w k x) := by
  simp [q_ws, List.getElem?_mapIdx, h]
theorem q_en1_eq (h : w' k = w k) : q_en1 ad cA w' k x = q_en1 ad cA w k x := by
  rcases x with ⟨t, n⟩ | ⟨t, ks⟩ | ⟨ci, fs⟩
  · simp only [q_en1, h]
  · rfl
  · simp only [q_en1, q_fs, h]
theorem q_ws_set {v : va_E} (hx : sh[k]? = some x) (hw : ∀ a, a ≠ k → w' a = w a) (hv : q_en1 ad cA w' k x = v) : (q_ws ad cA sh w).set k (ad k, v) = q_ws ad cA sh w' := by
  subst hv
  apply List.ext_getElem?
  intro i
  have hk : k < sh.length := (List.getElem?_eq_some_iff.mp hx).1
  by_cases hi : k = i
  · subst hi
    rw [List.getElem?_set_self (by simp [q_ws, hk]), q_ws_at hx]
  · rw [List.getElem?_set_ne hi]
    simp only [q_ws, List.getElem?_mapIdx]
    cases sh[i]? with
    | none => rfl
    | some y => simp only [Option.map_some]; rw [q_en1_eq (hw i (fun q => hi q.symm))]
theorem q_ws_D {A : Nat → Prop} (h : va_D A (q_ws ad cA sh w)) : va_D A (q_ws ad cA sh w') := by
  have key : ∀ (i : Nat) (q : Nat × va_E), (q_ws ad cA sh w')[i]? = some q → ∃ q', (q_ws ad cA sh w)[i]? = some q' ∧ q'.1 = q.1 := by
    intro i q hq
    simp only [q_ws, List.getElem?_mapIdx] at hq ⊢
    cases hs : sh[i]? with
    | none => rw [hs] at hq; simp at hq
    | some y =>
      rw [hs] at hq
      simp only [Option.map_some, Option.some.injEq] at hq
      subst hq
      exact ⟨_, rfl, rfl⟩
  refine ⟨fun i j p q hp hq hpq => ?_, fun i q hq => ?_⟩
  · obtain ⟨p', hp', e1⟩ := key i p hp
    obtain ⟨q', hq', e2⟩ := key j q hq
    exact h.1 i j p' q' hp' hq' (by rw [e1, e2, hpq])
  · obtain ⟨q', hq', e1⟩ := key i q hq
    rw [← e1]
    exact h.2 i q' hq'
theorem q_fs_at {fs : List (Option Nat)} {j : Nat} {o : Option Nat} (h : fs[j]? = some o) : (q_fs ad w k fs)[j]? = some (match o with
  | none => .int (w k j)
  | some r => .ref (ad r)) := by
  simp [q_fs, List.getElem?_mapIdx, h]
  cases o <;> rfl
theorem q_up_at (w : qW) (k j : Nat) (v : Int32) : q_up w k j v k = upd (w k) j v := by simp [q_up]
theorem q_up_ne (w : qW) {a k : Nat} (j : Nat) (v : Int32) (h : a ≠ k) : q_up w k j v a = w a := by simp [q_up, h]
theorem q_row_at (w : qW) (k : Nat) (f : Nat → Int32) : q_row w k f k = f := by simp [q_row]
theorem q_row_ne (w : qW) {a k : Nat} (f : Nat → Int32) (h : a ≠ k) : q_row w k f a = w a := by simp [q_row, h]
theorem q_fs_set {fs : List (Option Nat)} {j : Nat} {v : Int32} (h : fs[j]? = some none) : q_fs ad (q_up w k j v) k fs = (q_fs ad w k fs).set j (.int v) := by
  apply List.ext_getElem?
  intro i
  have hj : j < fs.length := (List.getElem?_eq_some_iff.mp h).1
  by_cases hi : j = i
  · subst hi
    rw [List.getElem?_set_self (by simp [q_fs, hj])]
    simp [q_fs, List.getElem?_mapIdx, h, q_up_at, upd]
  · rw [List.getElem?_set_ne hi]
    simp only [q_fs, List.getElem?_mapIdx, q_up_at]
    cases fs[i]? with
    | none => rfl
    | some y =>
      cases y with
      | none => simp only [Option.map_some, upd, if_neg (fun q => hi (Eq.symm q))]
      | some r => rfl
end QW
def q_ty (t : Nat) : FieldType := match t with
  | 0 => .int
  | 1 => .boolean
  | _ => .object RX0
def q_TY (cA : Nat → ClassId) (tys : List (ClassId × FieldType)) (sh : List qS) : Prop := ∀ k t : Nat, ((∃ n, sh[k]? = some (.inl (t, n))) ∨ ∃ ks, sh[k]? = some (.inr (.inl (t, ks)))) → tys[t]? = some (cA t, q_ty t)
def q_lv (ad : Nat → Nat) (L : qL) : List (Nat × Value) := (List.range L.length).filterMap (fun i => match L[i]? with
  | some (some v) => some (i, q_iv ad v)
  | _ => none)
theorem q_lv_mem {ad : Nat → Nat} {L : qL} {i : Nat} {u : Value} : (i, u) ∈ q_lv ad L ↔ ∃ v, L[i]? = some (some v) ∧ u = q_iv ad v := by
  unfold q_lv
  rw [List.mem_filterMap]
  constructor
  · rintro ⟨a, -, h⟩
    split at h
    · rename_i v hv
      simp only [Option.some.injEq, Prod.mk.injEq] at h
      obtain ⟨rfl, rfl⟩ := h
      exact ⟨v, hv, rfl⟩
    · cases h
  · rintro ⟨v, hv, rfl⟩
    refine ⟨i, List.mem_range.mpr (List.getElem?_eq_some_iff.mp hv).1, ?_⟩
    rw [hv]
theorem lv_mono {ls : Array Slot} {n : Nat} {l l' : List (Nat × Value)} (h : lv_has ls n l) (hm : ∀ q ∈ l', q ∈ l) : lv_has ls n l' := ⟨h.1, h.2.1, fun q hq => h.2.2 q (hm q hq)⟩
theorem q_lv_get {ls : Array Slot} {n i : Nat} {ad : Nat → Nat} {L : qL} {v : Value} (h : lv_has ls n (q_lv ad L)) (hi : L[i]? = some (some v)) : ls[i]? = some (.val (q_iv ad v)) := h.2.2 (i, q_iv ad v) (q_lv_mem.mpr ⟨v, hi, rfl⟩)
theorem q_fr_cat {L : qL} {i j : Nat} {v : Value} (h : q_fr L i = true) (hj : j + 1 = i) (hv : L[j]? = some (some v)) : v.category = 1 := by
  subst hj
  simp only [q_fr, hv] at h
  simpa using h
theorem q_lv_set {ls : Array Slot} {n i : Nat} {ad : Nat → Nat} {L L' : qL} {v : Value} (h : q_st L i v = some L') (hl : lv_has ls n ((i, q_iv ad v) :: (q_lv ad L).filter (fun q => !(q.1 == i) && !(q.1 + 1 == i && q.2.category == 2)))) : lv_has ls n (q_lv ad L') ∧ L'.length = L.length := by
  unfold q_st at h
  split at h
  · rename_i hc
    cases h
    refine ⟨lv_mono hl fun q hq => ?_, by simp⟩
    obtain ⟨j, u⟩ := q
    obtain ⟨v', hv', rfl⟩ := q_lv_mem.mp hq
    by_cases hj : i = j
    · subst hj
      rw [List.getElem?_set_self hc.1] at hv'
      cases hv'
      exact List.mem_cons_self
    · rw [List.getElem?_set_ne hj] at hv'
      refine List.mem_cons_of_mem _ (List.mem_filter.mpr ⟨q_lv_mem.mpr ⟨v', hv', rfl⟩, ?_⟩)
      have hji : ¬ j = i := fun q => hj q.symm
      by_cases h1 : j + 1 = i
      · have h2 := q_fr_cat hc.2 h1 hv'
        simp [hji, q_iv_cat, h2]
      · simp [hji, h1]
  · cases h
theorem q_lv_set2 {ls : Array Slot} {n i : Nat} {ad : Nat → Nat} {L L' : qL} {v : Value} (h : q_st2 L i v = some L') (hl : lv_has ls n ((i, q_iv ad v) :: (q_lv ad L).filter (fun q => !(q.1 == i) && (!(q.1 == i + 1) && !(q.1 + 1 == i && q.2.category == 2))))) : lv_has ls n (q_lv ad L') ∧ L'.length = L.length := by
  unfold q_st2 at h
  split at h
  · rename_i hc
    cases h
    refine ⟨lv_mono hl fun q hq => ?_, by simp⟩
    obtain ⟨j, u⟩ := q
    obtain ⟨v', hv', rfl⟩ := q_lv_mem.mp hq
    by_cases hk : i + 1 = j
    · subst hk
      rw [List.getElem?_set_self (by simp; exact hc.1)] at hv'
      cases hv'
    rw [List.getElem?_set_ne hk] at hv'
    by_cases hj : i = j
    · subst hj
      rw [List.getElem?_set_self (by omega)] at hv'
      cases hv'
      exact List.mem_cons_self
    · rw [List.getElem?_set_ne hj] at hv'
      refine List.mem_cons_of_mem _ (List.mem_filter.mpr ⟨q_lv_mem.mpr ⟨v', hv', rfl⟩, ?_⟩)
      have hji : ¬ j = i := fun q => hj q.symm
      have hjk : ¬ j = i + 1 := fun q => hk q.symm
      by_cases h1 : j + 1 = i
      · have h2 := q_fr_cat hc.2 h1 hv'
        simp [hji, hjk, q_iv_cat, h2]
      · simp [hji, hjk, h1]
  · cases h
theorem q_st_lt {L L' : qL} {i : Nat} {v : Value} (h : q_st L i v = some L') : i < L.length := by
  unfold q_st at h
  split at h
  · rename_i hc; exact hc.1
  · cases h
theorem q_st2_lt {L L' : qL} {i : Nat} {v : Value} (h : q_st2 L i v = some L') : i + 1 < L.length := by
  unfold q_st2 at h
  split at h
  · rename_i hc; exact hc.1
  · cases h
theorem q_ic_nat (k : Nat) : Int32.ofInt (k : Int) = Int32.ofNat k := by
  rw [← Int32.toBitVec_inj]
  simp [Int32.ofInt, Int32.ofNat]
theorem q_ic_eq (n : Int) : Int32.ofInt n = q_ic n := by
  cases n with
  | ofNat k => exact q_ic_nat k
  | negSucc k =>
    simp only [q_ic, Int.negSucc_eq]
    rw [Int32.ofInt_neg]
    exact congrArg _ (q_ic_nat (k + 1))
theorem q_ic8 {n : Int} (h1 : -128 ≤ n) (h2 : n < 128) : (Int8.ofInt n).toInt32 = q_ic n := by
  rw [← q_ic_eq, ← Int32.toInt_inj, Int8.toInt_toInt32, Int8.toInt_ofInt_of_le (by simpa using h1) (by simpa using h2), Int32.toInt_ofInt_of_le (by simp; omega) (by simp; omega)]
end
section
/-! ONE STEP of the pure machine is a step of the machine -/
def q_FX (p : Program) (R : Room) (s : State) (m : MethodId) (args : Array Value) (meth : Method) (c : Code) (D : va_G) (ad : Nat → Nat) (cA : Nat → ClassId) (tys : List (ClassId × FieldType)) (sh : List qS) (sc : qX) (I : qI) (A : Nat → Prop) (cells slots : Nat) : Prop :=
  p.tables.exec = Jvm.exec ∧ c.code = mB I ∧ c.maxLocals = mL I ∧ meth.sig.returnType = mR I ∧ s.vm.findClass (q_nm (mC I)) = some m.cls ∧ (∀ w ∈ q_tbl, w.before args s = true) ∧ q_NW s ∧ (mF I ≤ R.frames ∧ mK I ≤ R.locals ∧ cells ≤ R.cells ∧ slots ≤ R.slots) ∧ va_K D q_cl tys s ∧ q_TY cA tys sh ∧ (∀ q : Nat, s.heap.size ≤ q → A q) ∧ (∀ N xs, sc = some (N, xs) → sh[q_scr]? = none ∧ va_X (ad q_scr) N xs s s.heap ∧ ad q_scr < s.heap.size ∧ ¬ A (ad q_scr))
/-- the cells and the locals -/
def q_RL (s : State) (D : va_G) (ad : Nat → Nat) (cA : Nat → ClassId) (sh : List qS) (I : qI) (A : Nat → Prop) (H : Heap) (locs : List Loc) (L : qL) (w : qW) (ls : Array Slot) : Prop :=
  va_P D q_cl (q_ws ad cA sh w) H ∧ va_D A (q_ws ad cA sh w) ∧ va_S A s.heap H locs ∧ lv_has ls (mL I) (q_lv ad L) ∧ L.length = mL I
theorem q_go_eq {pc pc' : Nat} {L L' : qL} {S S' : List Value} {w w' : qW} (h : q_go pc L S w = some (.inl (pc', L', S', w'))) : pc = pc' ∧ L = L' ∧ S = S' ∧ w = w' := by
  simp only [q_go, Option.some.injEq, Sum.inl.injEq, Prod.mk.injEq] at h
  exact ⟨h.1, h.2.1, h.2.2.1, h.2.2.2⟩
theorem q_b1_eq {len pc pc' : Nat} {L L' : qL} {S S' : List Value} {w w' : qW} {f : Int32 → Int32 → Int32} (h : q_b1 len pc L S w f = some (.inl (pc', L', S', w'))) : ∃ x y r, len = 1 ∧ S = .int y :: .int x :: r ∧ pc + 1 = pc' ∧ L = L' ∧ .int (f x y) :: r = S' ∧ w = w' := by
  unfold q_b1 at h
  split at h
  · obtain ⟨h1, h2, h3, h4⟩ := q_go_eq h
    exact ⟨_, _, _, rfl, rfl, h1, h2, h3, h4⟩
  · cases h
theorem q_u1_eq {len pc pc' : Nat} {L L' : qL} {S S' : List Value} {w w' : qW} {f : Int32 → Value} (h : q_u1 len pc L S w f = some (.inl (pc', L', S', w'))) : ∃ x r, len = 1 ∧ S = .int x :: r ∧ pc + 1 = pc' ∧ L = L' ∧ f x :: r = S' ∧ w = w' := by
  unfold q_u1 at h
  split at h
  · obtain ⟨h1, h2, h3, h4⟩ := q_go_eq h
    exact ⟨_, _, rfl, rfl, h1, h2, h3, h4⟩
  · cases h
theorem q_ld_eq {len len0 pc i pc' : Nat} {L L' : qL} {S S' : List Value} {w w' : qW} {ok : Value → Bool} (h : q_ld len len0 pc L i S w ok = some (.inl (pc', L', S', w'))) : ∃ v, len = len0 ∧ L[i]? = some (some v) ∧ ok v = true ∧ pc + len0 = pc' ∧ L = L' ∧ v :: S = S' ∧ w = w' := by
  unfold q_ld at h
  split at h
  · rename_i hl
    split at h
    · rename_i v hv
      split at h
      · rename_i ho
        obtain ⟨h1, h2, h3, h4⟩ := q_go_eq h
        exact ⟨v, hl, hv, ho, h1, h2, h3, h4⟩
      · cases h
    · cases h
  · cases h
theorem q_sv_eq {len len0 pc i pc' : Nat} {L L' : qL} {S S' : List Value} {w w' : qW} {ok : Value → Bool} (h : q_sv len len0 pc L i S w ok = some (.inl (pc', L', S', w'))) : ∃ v r, len = len0 ∧ S = v :: r ∧ ok v = true ∧ q_st L i v = some L' ∧ pc + len0 = pc' ∧ r = S' ∧ w = w' := by
  unfold q_sv at h
  split at h
  · rename_i hl
    split at h
    · rename_i v r
      split at h
      · rename_i ho
        split at h
        · rename_i L1 hL1
          obtain ⟨h1, h2, h3, h4⟩ := q_go_eq h
          subst h2
          exact ⟨v, r, hl, rfl, ho, hL1, h1, h3, h4⟩
        · cases h
      · cases h
    · cases h
  · cases h
theorem q_to_eq {pc t : Nat} {off : Int} (h : q_to pc off = some t) : (pc : Int) + off = (t : Int) := by
  unfold q_to at h
  split at h
  · rename_i u hu
    cases h
    exact hu
  · cases h
theorem q_or_vp {i : Int32} {n : Nat} (h : ¬ (i < 0 ∨ n ≤ i.toNatClampNeg)) : vp_in i n := h
theorem q_room_rest {m : MethodId} {pc : Nat} {ls : Array Slot} {S : List Value} {ad : Nat → Nat} {r : List Value} (h : q_cat r ≤ 8) : 2 * (F0 m pc ls S).monitorRoom + ((r.map (q_iv ad)).map fun v => v.category).sum ≤ 8 := lv_room (by rw [q_iv_cats]; exact h)
section Q6
variable {p : Program} {l : Launch} {e : Env} {R : Room} {s : State} {m : MethodId} {args : Array Value} {below : List Frame} {meth : Method} {c : Code} {H : Heap} {locs : List Loc} {cells slots : Nat} {Q : State → Prop}
variable {D : va_G} {ad : Nat → Nat} {cA : Nat → ClassId} {tys : List (ClassId × FieldType)} {sh : List qS} {sc : qX} {I : qI} {A : Nat → Prop} {pc len pc' : Nat} {ins : Instr} {L L' : qL} {S S' : List Value} {w w' : qW} {ls : Array Slot}
set_option maxHeartbeats 4000000 in
theorem q_load1 (F : q_FX p R s m args meth c D ad cA tys sh sc I A cells slots) (rel : q_RL s D ad cA sh I A H locs L w ls)
    (kk : ∀ (H' : Heap) (locs' : List Loc) (ls' : Array Slot), q_RL s D ad cA sh I A H' locs' L' w' ls' → W p l e R s m args below meth c H' locs' cells slots Q (F0 m pc' ls' (S'.map (q_iv ad)))) :
    (∀ k, decode (mB I) pc = .ok (.iload_n k, len) → q_ld len 1 pc L k.val S w q_vi = some (.inl (pc', L', S', w')) → W p l e R s m args below meth c H locs cells slots Q (F0 m pc ls (S.map (q_iv ad)))) ∧
    (∀ k, decode (mB I) pc = .ok (.iload k, len) → q_ld len 2 pc L k S w q_vi = some (.inl (pc', L', S', w')) → W p l e R s m args below meth c H locs cells slots Q (F0 m pc ls (S.map (q_iv ad)))) ∧
    (∀ k, decode (mB I) pc = .ok (.lload_n k, len) → q_ld len 1 pc L k.val S w q_vl = some (.inl (pc', L', S', w')) → W p l e R s m args below meth c H locs cells slots Q (F0 m pc ls (S.map (q_iv ad)))) ∧
    (∀ k, decode (mB I) pc = .ok (.aload_n k, len) → q_ld len 1 pc L k.val S w q_va = some (.inl (pc', L', S', w')) → W p l e R s m args below meth c H locs cells slots Q (F0 m pc ls (S.map (q_iv ad)))) ∧
    (∀ k, decode (mB I) pc = .ok (.aload k, len) → q_ld len 2 pc L k S w q_va = some (.inl (pc', L', S', w')) → W p l e R s m args below meth c H locs cells slots Q (F0 m pc ls (S.map (q_iv ad)))) := by
  obtain ⟨hx, hb, -⟩ := F
  have hl := rel.2.2.2.1
  refine ⟨fun k hd h => ?_, fun k hd h => ?_, fun k hd h => ?_, fun k hd h => ?_, fun k hd h => ?_⟩
  all_goals
    obtain ⟨v, rfl, hv, ho, rfl, rfl, rfl, rfl⟩ := q_ld_eq h
    have hg := q_lv_get hl hv
  · cases v <;> first | (simp [q_vi] at ho; done) | exact lv_iload_n hx hb hd rfl hg (kk _ _ _ rel)
  · cases v <;> first | (simp [q_vi] at ho; done) | exact lv_iload hx hb hd hg (kk _ _ _ rel)
  · cases v <;> first | (simp [q_vl] at ho; done) | exact lv_lload_n hx hb hd rfl hg (kk _ _ _ rel)
  · cases v <;> first | (simp [q_va] at ho; done) | exact lv_aload_n hx hb hd rfl hg (kk _ _ _ rel) | exact lv_aload_nN hx hb hd rfl hg (kk _ _ _ rel)
  · cases v <;> first | (simp [q_va] at ho; done) | exact lv_aload hx hb hd hg (kk _ _ _ rel) | exact lv_aloadN hx hb hd hg (kk _ _ _ rel)
set_option maxHeartbeats 4000000 in
theorem q_store1 (F : q_FX p R s m args meth c D ad cA tys sh sc I A cells slots) (rel : q_RL s D ad cA sh I A H locs L w ls)
    (kk : ∀ (H' : Heap) (locs' : List Loc) (ls' : Array Slot), q_RL s D ad cA sh I A H' locs' L' w' ls' → W p l e R s m args below meth c H' locs' cells slots Q (F0 m pc' ls' (S'.map (q_iv ad)))) :
    (∀ k, decode (mB I) pc = .ok (.istore_n k, len) → q_sv len 1 pc L k.val S w q_vi = some (.inl (pc', L', S', w')) → W p l e R s m args below meth c H locs cells slots Q (F0 m pc ls (S.map (q_iv ad)))) ∧
    (∀ k, decode (mB I) pc = .ok (.istore k, len) → q_sv len 2 pc L k S w q_vi = some (.inl (pc', L', S', w')) → W p l e R s m args below meth c H locs cells slots Q (F0 m pc ls (S.map (q_iv ad)))) ∧
    (∀ k, decode (mB I) pc = .ok (.astore_n k, len) → q_sv len 1 pc L k.val S w q_va = some (.inl (pc', L', S', w')) → W p l e R s m args below meth c H locs cells slots Q (F0 m pc ls (S.map (q_iv ad)))) ∧
    (∀ k, decode (mB I) pc = .ok (.astore k, len) → q_sv len 2 pc L k S w q_va = some (.inl (pc', L', S', w')) → W p l e R s m args below meth c H locs cells slots Q (F0 m pc ls (S.map (q_iv ad)))) := by
  obtain ⟨hx, hb, -⟩ := F
  obtain ⟨hP, hD, hS, hl, hn⟩ := rel
  have go : ∀ (v : Value) (i : Nat) (ls' : Array Slot), q_st L i v = some L' → w = w' → lv_has ls' (mL I) ((i, q_iv ad v) :: (q_lv ad L).filter (fun q => !(q.1 == i) && !(q.1 + 1 == i && q.2.category == 2))) → W p l e R s m args below meth c H locs cells slots Q (F0 m pc' ls' (S'.map (q_iv ad))) := by
    intro v i ls' h1 h2 h3
    subst h2
    obtain ⟨h4, h5⟩ := q_lv_set h1 h3
    exact kk _ _ _ ⟨hP, hD, hS, h4, by rw [h5]; exact hn⟩
  refine ⟨fun k hd h => ?_, fun k hd h => ?_, fun k hd h => ?_, fun k hd h => ?_⟩
  all_goals
    obtain ⟨v, r, rfl, rfl, ho, hst, rfl, rfl, rfl⟩ := q_sv_eq h
    have hk := q_st_lt hst
    rw [hn] at hk
  · cases v <;> first | (simp [q_vi] at ho; done) | exact lv_istore_n hx hb hd rfl hl hk rfl (fun ls' h => go _ _ ls' hst rfl h)
  · cases v <;> first | (simp [q_vi] at ho; done) | exact lv_istore hx hb hd hl hk rfl (fun ls' h => go _ _ ls' hst rfl h)
  · cases v <;> first | (simp [q_va] at ho; done) | exact lv_astore_n hx hb hd rfl hl hk rfl (fun ls' h => go _ _ ls' hst rfl h) | exact lv_astore_nN hx hb hd rfl hl hk rfl (fun ls' h => go _ _ ls' hst rfl h)
  · cases v <;> first | (simp [q_va] at ho; done) | exact lv_astore hx hb hd hl hk rfl (fun ls' h => go _ _ ls' hst rfl h) | exact lv_astoreN hx hb hd hl hk rfl (fun ls' h => go _ _ ls' hst rfl h)
end Q6
end
section
/-! steps that look at cells -/
section Q7
variable {p : Program} {l : Launch} {e : Env} {R : Room} {s : State} {m : MethodId} {args : Array Value} {below : List Frame} {meth : Method} {c : Code} {H : Heap} {locs : List Loc} {cells slots : Nat} {Q : State → Prop}
variable {D : va_G} {ad : Nat → Nat} {cA : Nat → ClassId} {tys : List (ClassId × FieldType)} {sh : List qS} {sc : qX} {I : qI} {A : Nat → Prop} {pc len pc' : Nat} {ins : Instr} {L L' : qL} {S S' : List Value} {w w' : qW} {ls : Array Slot}
set_option maxHeartbeats 4000000 in
theorem q_getf {idx : Nat} (F : q_FX p R s m args meth c D ad cA tys sh sc I A cells slots) (rel : q_RL s D ad cA sh I A H locs L w ls)
    (kk : ∀ (H' : Heap) (locs' : List Loc) (ls' : Array Slot), q_RL s D ad cA sh I A H' locs' L' w' ls' → W p l e R s m args below meth c H' locs' cells slots Q (F0 m pc' ls' (S'.map (q_iv ad))))
    (hd : decode (mB I) pc = .ok (.getfield idx, len)) (h : q_step q_tb sh sc I pc len (.getfield idx) L S w = some (.inl (pc', L', S', w'))) : W p l e R s m args below meth c H locs cells slots Q (F0 m pc ls (S.map (q_iv ad))) := by
  obtain ⟨hx, hb, hml, hr, hown, hts, hNW, -, hK, -⟩ := F
  have hP := rel.1
  unfold q_step at h; dsimp only at h
  split at h
  · rename_i k r
    split at h
    · rename_i ne ci j hf
      split at h
      · rename_i v hv
        obtain ⟨rfl, rfl, rfl, rfl⟩ := q_go_eq h
        obtain ⟨C, T, N, hc, hj, hl0, hl1⟩ := q_fl_ok hf
        dsimp only at hc hj hl0 hl1
        obtain ⟨hin, -, -⟩ := q_cl_ok hc
        unfold q_get at hv
        split at hv
        · rename_i c' fs hsh
          split at hv
          · rename_i hcc
            subst hcc
            have he := q_ws_at (ad := ad) (cA := cA) (w := w) hsh
            have hget : ∀ u, (q_fs ad w k fs)[j]? = some u → u = q_iv ad v → W p l e R s m args below meth c H locs cells slots Q (F0 m pc ls ((Value.ref k :: r).map (q_iv ad))) := by
              intro u hu hv'
              subst hv'
              rcases hl1 with h0 | h1
              · exact va_get hx hb hts hin hown hK hP k he hc j hj (hts _ (hl0 h0)) (fun _ q => q) hu hd (kk _ _ _ rel)
              · exact va_getN hx hb hts hin hown hK hP k he hc j hj (va_Nw.use rfl (hNW.1 _ h1)) (fun _ q => q) hu hd (kk _ _ _ rel)
            split at hv
            · rename_i hfs
              cases hv
              exact hget _ (q_fs_at hfs) rfl
            · rename_i r' hfs
              cases hv
              exact hget _ (q_fs_at hfs) rfl
            · cases hv
          · cases hv
        · cases hv
      · cases h
    · cases h
  · cases h
set_option maxHeartbeats 4000000 in
theorem q_putf {idx : Nat} (F : q_FX p R s m args meth c D ad cA tys sh sc I A cells slots) (rel : q_RL s D ad cA sh I A H locs L w ls)
    (kk : ∀ (H' : Heap) (locs' : List Loc) (ls' : Array Slot), q_RL s D ad cA sh I A H' locs' L' w' ls' → W p l e R s m args below meth c H' locs' cells slots Q (F0 m pc' ls' (S'.map (q_iv ad))))
    (hd : decode (mB I) pc = .ok (.putfield idx, len)) (h : q_step q_tb sh sc I pc len (.putfield idx) L S w = some (.inl (pc', L', S', w'))) : W p l e R s m args below meth c H locs cells slots Q (F0 m pc ls (S.map (q_iv ad))) := by
  obtain ⟨hx, hb, hml, hr, hown, hts, hNW, -, hK, -⟩ := F
  obtain ⟨hP, hD, hS, hl, hn⟩ := rel
  unfold q_step at h; dsimp only at h
  split at h
  · rename_i v k r
    split at h
    · rename_i ne ci j hf
      split at h
      · rename_i hw
        obtain ⟨rfl, rfl, rfl, rfl⟩ := q_go_eq h
        obtain ⟨C, T, N, hc, hj, hl0, hl1⟩ := q_fl_ok hf
        dsimp only at hc hj hl0 hl1
        obtain ⟨hin, ⟨ty0, hty⟩, hnm⟩ := q_cl_ok hc
        obtain ⟨hfin, hI⟩ := q_wr_ok hw.2 C T N hc
        have hpd : parseFieldDescriptor (T j).2.2.1 = some .int := by rw [hI]; decide +kernel
        have hi := hw.1
        unfold q_isint at hi
        split at hi
        · rename_i c' fs hsh
          simp only [Bool.and_eq_true, beq_iff_eq] at hi
          obtain ⟨rfl, hi⟩ := hi
          split at hi
          · rename_i hfs
            have he := q_ws_at (ad := ad) (cA := cA) (w := w) hsh
            have hjl : j < (q_fs ad w k fs).length := by
              have := (List.getElem?_eq_some_iff.mp hfs).1
              simpa [q_fs] using this
            have hset : (q_ws ad cA sh w).set k (ad k, .inr (c', (q_fs ad w k fs).set j (.int v))) = q_ws ad cA sh (q_up w k j v) :=
              q_ws_set hsh (fun a h => q_up_ne w j v h) (by simp only [q_en1, q_fs_set hfs])
            have kk' : ∀ (H1 : Heap) (locs1 : List Loc), va_P D q_cl ((q_ws ad cA sh w).set k (ad k, .inr (c', (q_fs ad w k fs).set j (.int v)))) H1 → va_D A ((q_ws ad cA sh w).set k (ad k, .inr (c', (q_fs ad w k fs).set j (.int v)))) → va_S A s.heap H1 locs1 → W p l e R s m args below meth c H1 locs1 cells slots Q (F0 m (pc + 3) ls (r.map (q_iv ad))) := by
              intro H1 locs1 g1 g2 g3
              rw [hset] at g1 g2
              exact kk _ _ _ ⟨g1, g2, g3, hl, hn⟩
            rcases hl1 with h0 | h1
            · exact va_put hx hb hts hin ty0 hty hnm hown hK hP hD hS k he hc j hj (hts _ (hl0 h0)) (fun _ q => q) hfin hpd rfl rfl hjl hd kk'
            · exact va_putN hx hb hts hin ty0 hty hnm hown hK hP hD hS k he hc j hj (va_Nw.use rfl (hNW.1 _ h1)) (fun _ q => q) hfin hpd rfl rfl hjl hd kk'
          · cases hi
        · cases hi
      · cases h
    · cases h
  · cases h
set_option maxHeartbeats 4000000 in
theorem q_aload0 (F : q_FX p R s m args meth c D ad cA tys sh sc I A cells slots) (rel : q_RL s D ad cA sh I A H locs L w ls)
    (kk : ∀ (H' : Heap) (locs' : List Loc) (ls' : Array Slot), q_RL s D ad cA sh I A H' locs' L' w' ls' → W p l e R s m args below meth c H' locs' cells slots Q (F0 m pc' ls' (S'.map (q_iv ad))))
    (hd : decode (mB I) pc = .ok (.iaload, len)) (h : q_al sh sc 0 len pc L S w = some (.inl (pc', L', S', w'))) : W p l e R s m args below meth c H locs cells slots Q (F0 m pc ls (S.map (q_iv ad))) := by
  obtain ⟨hx, hb, hml, hr, hown, hts, hNW, -, hK, hTY, hA, hsc⟩ := F
  have hP := rel.1
  unfold q_al at h
  split at h
  · rename_i i k r
    split at h
    · rename_i t' n hsh
      split at h
      · rename_i ht
        subst ht
        split at h
        · cases h
        · rename_i hi
          obtain ⟨rfl, rfl, rfl, rfl⟩ := q_go_eq h
          exact va_iald hx hb hK hP k 0 (q_ws_at hsh) (hTY k 0 (Or.inl ⟨_, hsh⟩)) (q_or_vp hi) hd (kk _ _ _ rel)
      · cases h
    · cases h
    · split at h
      · rename_i hks
        obtain ⟨rfl, -⟩ := hks
        split at h
        · rename_i n xs
          split at h
          · cases h
          · rename_i hi
            obtain ⟨rfl, rfl, rfl, rfl⟩ := q_go_eq h
            obtain ⟨-, hX, hbl, hbA⟩ := hsc _ _ rfl
            exact va_sld hx hb hX hbl hbA rel.2.2.1 (q_or_vp hi) hd (kk _ _ _ rel)
        · cases h
      · cases h
  · cases h
set_option maxHeartbeats 4000000 in
theorem q_aload1 (F : q_FX p R s m args meth c D ad cA tys sh sc I A cells slots) (rel : q_RL s D ad cA sh I A H locs L w ls)
    (kk : ∀ (H' : Heap) (locs' : List Loc) (ls' : Array Slot), q_RL s D ad cA sh I A H' locs' L' w' ls' → W p l e R s m args below meth c H' locs' cells slots Q (F0 m pc' ls' (S'.map (q_iv ad))))
    (hd : decode (mB I) pc = .ok (.baload, len)) (h : q_al sh none 1 len pc L S w = some (.inl (pc', L', S', w'))) : W p l e R s m args below meth c H locs cells slots Q (F0 m pc ls (S.map (q_iv ad))) := by
  obtain ⟨hx, hb, hml, hr, hown, hts, hNW, -, hK, hTY, hA, hsc⟩ := F
  have hP := rel.1
  unfold q_al at h
  split at h
  · rename_i i k r
    split at h
    · rename_i t' n hsh
      split at h
      · rename_i ht
        subst ht
        split at h
        · cases h
        · rename_i hi
          obtain ⟨rfl, rfl, rfl, rfl⟩ := q_go_eq h
          exact va_zald hx hb hK hP k 1 (q_ws_at hsh) (hTY k 1 (Or.inl ⟨_, hsh⟩)) (q_or_vp hi) hd (kk _ _ _ rel)
      · cases h
    · cases h
    · split at h
      · rename_i hks
        exact absurd hks.2 (by decide)
      · cases h
  · cases h
set_option maxHeartbeats 4000000 in
theorem q_astore01 (F : q_FX p R s m args meth c D ad cA tys sh sc I A cells slots) (rel : q_RL s D ad cA sh I A H locs L w ls)
    (kk : ∀ (H' : Heap) (locs' : List Loc) (ls' : Array Slot), q_RL s D ad cA sh I A H' locs' L' w' ls' → W p l e R s m args below meth c H' locs' cells slots Q (F0 m pc' ls' (S'.map (q_iv ad)))) :
    (decode (mB I) pc = .ok (.iastore, len) → q_as sh 0 len pc L S w (fun x => x) = some (.inl (pc', L', S', w')) → W p l e R s m args below meth c H locs cells slots Q (F0 m pc ls (S.map (q_iv ad)))) ∧
    (decode (mB I) pc = .ok (.bastore, len) → q_as sh 1 len pc L S w (vp_nar .boolean) = some (.inl (pc', L', S', w')) → W p l e R s m args below meth c H locs cells slots Q (F0 m pc ls (S.map (q_iv ad)))) := by
  obtain ⟨hx, hb, hml, hr, hown, hts, hNW, -, hK, hTY, hA, hsc⟩ := F
  obtain ⟨hP, hD, hS, hl, hn⟩ := rel
  refine ⟨fun hd h => ?_, fun hd h => ?_⟩
  · unfold q_as at h
    split at h
    · rename_i x i k r
      split at h
      · rename_i t' n hsh
        split at h
        · rename_i ht
          subst ht
          split at h
          · cases h
          · rename_i hi
            obtain ⟨rfl, rfl, rfl, rfl⟩ := q_go_eq h
            refine va_iast hx hb hK hP hD hS k 0 (q_ws_at hsh) (hTY k 0 (Or.inl ⟨_, hsh⟩)) (q_or_vp hi) hd (fun H1 locs1 g1 g2 g3 => ?_)
            have hset := q_ws_set (ad := ad) (cA := cA) (v := .inl (cA 0, n, .inl (upd (w k) i.toNatClampNeg x))) hsh (fun a h => q_up_ne w i.toNatClampNeg x h) (by simp only [q_en1, q_up_at])
            rw [hset] at g1 g2
            exact kk _ _ _ ⟨g1, g2, g3, hl, hn⟩
        · cases h
      · cases h
    · cases h
  · unfold q_as at h
    split at h
    · rename_i x i k r
      split at h
      · rename_i t' n hsh
        split at h
        · rename_i ht
          subst ht
          split at h
          · cases h
          · rename_i hi
            obtain ⟨rfl, rfl, rfl, rfl⟩ := q_go_eq h
            refine va_zast hx hb hK hP hD hS k 1 (q_ws_at hsh) (hTY k 1 (Or.inl ⟨_, hsh⟩)) (q_or_vp hi) hd (fun H1 locs1 g1 g2 g3 => ?_)
            have hset := q_ws_set (ad := ad) (cA := cA) (v := .inl (cA 1, n, .inl (upd (w k) i.toNatClampNeg (vp_nar .boolean x)))) hsh (fun a h => q_up_ne w i.toNatClampNeg (vp_nar .boolean x) h) (by simp only [q_en1, q_up_at])
            rw [hset] at g1 g2
            exact kk _ _ _ ⟨g1, g2, g3, hl, hn⟩
        · cases h
      · cases h
    · cases h
set_option maxHeartbeats 4000000 in
theorem q_arr2 (F : q_FX p R s m args meth c D ad cA tys sh sc I A cells slots) (rel : q_RL s D ad cA sh I A H locs L w ls)
    (kk : ∀ (H' : Heap) (locs' : List Loc) (ls' : Array Slot), q_RL s D ad cA sh I A H' locs' L' w' ls' → W p l e R s m args below meth c H' locs' cells slots Q (F0 m pc' ls' (S'.map (q_iv ad)))) :
    (decode (mB I) pc = .ok (.aaload, len) → q_step q_tb sh sc I pc len .aaload L S w = some (.inl (pc', L', S', w')) → W p l e R s m args below meth c H locs cells slots Q (F0 m pc ls (S.map (q_iv ad)))) ∧
    (decode (mB I) pc = .ok (.arraylength, len) → q_step q_tb sh sc I pc len .arraylength L S w = some (.inl (pc', L', S', w')) → W p l e R s m args below meth c H locs cells slots Q (F0 m pc ls (S.map (q_iv ad)))) := by
  obtain ⟨hx, hb, hml, hr, hown, hts, hNW, -, hK, hTY, hA, hsc⟩ := F
  have hP := rel.1
  refine ⟨fun hd h => ?_, fun hd h => ?_⟩
  · unfold q_step at h; dsimp only at h
    split at h
    · rename_i i k r
      split at h
      · rename_i ks hsh
        split at h
        · cases h
        · rename_i hi
          obtain ⟨rfl, rfl, rfl, rfl⟩ := q_go_eq h
          refine va_aldq (C := RX0) hx hb hK hP k 2 (q_ws_at hsh) (hTY k 2 (Or.inr ⟨_, hsh⟩)) (q_or_vp hi) hd ?_
          have h1 := kk _ _ _ rel
          cases hq : ks[i.toNatClampNeg]? with
          | none => rw [hq] at h1; simp only [Option.map_none]; exact h1
          | some q => rw [hq] at h1; simp only [Option.map_some]; exact h1
      · cases h
    · cases h
  · unfold q_step at h; dsimp only at h
    split at h
    · rename_i k r
      split at h
      · rename_i t n hsh
        obtain ⟨rfl, rfl, rfl, rfl⟩ := q_go_eq h
        exact va_alen hx hb hK hP k t (q_ws_at hsh) (hTY k t (Or.inl ⟨_, hsh⟩)) rfl hd (kk _ _ _ rel)
      · rename_i t ks hsh
        obtain ⟨rfl, rfl, rfl, rfl⟩ := q_go_eq h
        exact va_alen hx hb hK hP k t (q_ws_at hsh) (hTY k t (Or.inr ⟨_, hsh⟩)) rfl hd (kk _ _ _ rel)
      · cases h
      · split at h
        · rename_i hks
          subst hks
          split at h
          · rename_i n xs
            obtain ⟨rfl, rfl, rfl, rfl⟩ := q_go_eq h
            obtain ⟨-, hX, hbl, hbA⟩ := hsc _ _ rfl
            exact va_slen hx hb hX hbl hbA rel.2.2.1 hd (kk _ _ _ rel)
          · cases h
        · cases h
    · cases h
set_option maxHeartbeats 4000000 in
theorem q_acopy {idx : Nat} (F : q_FX p R s m args meth c D ad cA tys sh sc I A cells slots) (rel : q_RL s D ad cA sh I A H locs L w ls)
    (kk : ∀ (H' : Heap) (locs' : List Loc) (ls' : Array Slot), q_RL s D ad cA sh I A H' locs' L' w' ls' → W p l e R s m args below meth c H' locs' cells slots Q (F0 m pc' ls' (S'.map (q_iv ad)))) (hI : mC I = 4) :
    (idx = 242 → decode (mB I) pc = .ok (.invokestatic idx, 3) → q_ac sh I pc L S w = some (.inl (pc', L', S', w')) → W p l e R s m args below meth c H locs cells slots Q (F0 m pc ls (S.map (q_iv ad)))) ∧
    (idx = 248 → decode (mB I) pc = .ok (.invokestatic idx, 3) → q_mn I pc L S w = some (.inl (pc', L', S', w')) → W p l e R s m args below meth c H locs cells slots Q (F0 m pc ls (S.map (q_iv ad)))) := by
  obtain ⟨hx, hb, hml, hr, hown, hts, hNW, hR, hK, hTY, hA, hsc⟩ := F
  obtain ⟨hP, hD, hS, hl, hn⟩ := rel
  rw [hI] at hown
  refine ⟨fun hi hd h => ?_, fun hi hd h => ?_⟩
  · subst hi
    unfold q_ac at h
    split at h
    · rename_i n dp kd sp ks r
      split at h
      · rename_i n0 n1 hs0 hs1
        split at h
        · cases h
        · rename_i hcond
          split at h
          · rename_i hrm
            obtain ⟨rfl, rfl, rfl, rfl⟩ := q_go_eq h
            simp only [not_or, Decidable.not_not] at hcond
            obtain ⟨h1, h2, h3, h4, h5⟩ := hcond
            refine va_copyi hx hb (hml.trans hl.1.symm) hown (hts _ q_acw.1) (hts _ q_acw.2.1) (hts _ q_acw.2.2.1) (hts _ q_acw.2.2.2) hK hP hD hS ks kd 0 0 (q_ws_at hs0) (q_ws_at hs1) (hTY ks 0 (Or.inl ⟨_, hs0⟩)) (hTY kd 0 (Or.inl ⟨_, hs1⟩)) rfl h1 h2 h3 h4 h5 (fun _ _ => rfl) (Nat.le_trans hrm.1 hR.1) (by rw [q_iv_cats]; exact Nat.le_trans hrm.2 hR.2.1) hd (fun H1 locs1 g1 g2 g3 => ?_)
            have hset := q_ws_set (ad := ad) (cA := cA) (v := .inl (cA 0, n1, .inl (va_cpy (w ks) (w kd) sp.toNatClampNeg dp.toNatClampNeg n.toNatClampNeg))) hs1 (fun a h => q_row_ne w (va_cpy (w ks) (w kd) sp.toNatClampNeg dp.toNatClampNeg n.toNatClampNeg) h) (by simp only [q_en1, q_row_at])
            rw [hset] at g1 g2
            exact kk _ _ _ ⟨g1, g2, g3, hl, hn⟩
          · cases h
      · cases h
    · cases h
  · subst hi
    unfold q_mn at h
    split at h
    · rename_i y x r
      split at h
      · rename_i hrm
        obtain ⟨rfl, rfl, rfl, rfl⟩ := q_go_eq h
        exact va_mmin hx hb (hml.trans hl.1.symm) hown (hts _ q_mnw.1) (hts _ q_mnw.2.1) (hts _ q_mnw.2.2.1) (hts _ q_mnw.2.2.2) (Nat.le_trans hrm.1 hR.1) (by rw [q_iv_cats]; exact Nat.le_trans hrm.2 hR.2.1) hR.2.2.1 hR.2.2.2 hd (kk _ _ _ ⟨hP, hD, hS, hl, hn⟩)
      · cases h
    · cases h
end Q7
end
section
/-! every step of the pure machine, and the whole run -/
section Q8
variable {p : Program} {l : Launch} {e : Env} {R : Room} {s : State} {m : MethodId} {args : Array Value} {below : List Frame} {meth : Method} {c : Code} {H : Heap} {locs : List Loc} {cells slots : Nat} {Q : State → Prop}
variable {D : va_G} {ad : Nat → Nat} {cA : Nat → ClassId} {tys : List (ClassId × FieldType)} {sh : List qS} {sc : qX} {I : qI} {A : Nat → Prop} {pc len pc' : Nat} {ins : Instr} {L L' : qL} {S S' : List Value} {w w' : qW} {ls : Array Slot}
theorem q_if_eq {cd : Jvm.ClassFile.Cond} {x y : Int32} {a b : Option qO} {o : qO} (h : q_if cd x y a b = some o) : a = some o ∨ b = some o := by
  unfold q_if at h
  split at h <;> split at h <;> first | exact Or.inl h | exact Or.inr h
set_option maxHeartbeats 8000000 in
theorem q_br (F : q_FX p R s m args meth c D ad cA tys sh sc I A cells slots) (rel : q_RL s D ad cA sh I A H locs L w ls)
    (kk : ∀ (H' : Heap) (locs' : List Loc) (ls' : Array Slot), q_RL s D ad cA sh I A H' locs' L' w' ls' → W p l e R s m args below meth c H' locs' cells slots Q (F0 m pc' ls' (S'.map (q_iv ad)))) :
    (∀ cd off, decode (mB I) pc = .ok (.ifCond cd off, len) → q_step q_tb sh sc I pc len (.ifCond cd off) L S w = some (.inl (pc', L', S', w')) → W p l e R s m args below meth c H locs cells slots Q (F0 m pc ls (S.map (q_iv ad)))) ∧
    (∀ cd off, decode (mB I) pc = .ok (.if_icmp cd off, len) → q_step q_tb sh sc I pc len (.if_icmp cd off) L S w = some (.inl (pc', L', S', w')) → W p l e R s m args below meth c H locs cells slots Q (F0 m pc ls (S.map (q_iv ad)))) := by
  obtain ⟨hx, hb, -⟩ := F
  refine ⟨fun cd off hd h => ?_, fun cd off hd h => ?_⟩
  · unfold q_step at h
    dsimp only at h
    split at h
    · rename_i x r
      split at h
      · rename_i t ht
        have ht := q_to_eq ht
        have K : ∀ a, q_go a L r w = some (.inl (pc', L', S', w')) → W p l e R s m args below meth c H locs cells slots Q (F0 m a ls (r.map (q_iv ad))) := by
          intro a ha
          obtain ⟨rfl, rfl, rfl, rfl⟩ := q_go_eq ha
          exact kk _ _ _ rel
        unfold q_if at h
        split at h
        · exact lv_if_eq hx hb hd ht (fun g => K _ (by rw [if_pos g] at h; exact h)) (fun g => K _ (by rw [if_neg g] at h; exact h))
        · exact lv_if_ne hx hb hd ht (fun g => K _ (by rw [if_pos g] at h; exact h)) (fun g => K _ (by rw [if_neg (fun z => z g)] at h; exact h))
        · exact lv_if_lt hx hb hd ht (fun g => K _ (by rw [if_pos g] at h; exact h)) (fun g => K _ (by rw [if_neg g] at h; exact h))
        · exact lv_if_ge hx hb hd ht (fun g => K _ (by rw [if_pos g] at h; exact h)) (fun g => K _ (by rw [if_neg g] at h; exact h))
        · exact lv_if_gt hx hb hd ht (fun g => K _ (by rw [if_pos g] at h; exact h)) (fun g => K _ (by rw [if_neg g] at h; exact h))
        · exact lv_if_le hx hb hd ht (fun g => K _ (by rw [if_pos g] at h; exact h)) (fun g => K _ (by rw [if_neg g] at h; exact h))
      · cases h
    · cases h
  · unfold q_step at h
    dsimp only at h
    split at h
    · rename_i y x r
      split at h
      · rename_i t ht
        have ht := q_to_eq ht
        have K : ∀ a, q_go a L r w = some (.inl (pc', L', S', w')) → W p l e R s m args below meth c H locs cells slots Q (F0 m a ls (r.map (q_iv ad))) := by
          intro a ha
          obtain ⟨rfl, rfl, rfl, rfl⟩ := q_go_eq ha
          exact kk _ _ _ rel
        unfold q_if at h
        split at h
        · exact lv_icmp_eq hx hb hd ht (fun g => K _ (by rw [if_pos g] at h; exact h)) (fun g => K _ (by rw [if_neg g] at h; exact h))
        · exact lv_icmp_ne hx hb hd ht (fun g => K _ (by rw [if_pos g] at h; exact h)) (fun g => K _ (by rw [if_neg (fun z => z g)] at h; exact h))
        · exact lv_icmp_lt hx hb hd ht (fun g => K _ (by rw [if_pos g] at h; exact h)) (fun g => K _ (by rw [if_neg g] at h; exact h))
        · exact lv_icmp_ge hx hb hd ht (fun g => K _ (by rw [if_pos g] at h; exact h)) (fun g => K _ (by rw [if_neg g] at h; exact h))
        · exact lv_icmp_gt hx hb hd ht (fun g => K _ (by rw [if_pos g] at h; exact h)) (fun g => K _ (by rw [if_neg g] at h; exact h))
        · exact lv_icmp_le hx hb hd ht (fun g => K _ (by rw [if_pos g] at h; exact h)) (fun g => K _ (by rw [if_neg g] at h; exact h))
      · cases h
    · cases h
set_option maxHeartbeats 16000000 in
theorem q_snd1 (F : q_FX p R s m args meth c D ad cA tys sh sc I A cells slots) (rel : q_RL s D ad cA sh I A H locs L w ls)
    (kk : ∀ (H' : Heap) (locs' : List Loc) (ls' : Array Slot), q_RL s D ad cA sh I A H' locs' L' w' ls' → W p l e R s m args below meth c H' locs' cells slots Q (F0 m pc' ls' (S'.map (q_iv ad))))
    (hd : decode (mB I) pc = .ok (ins, len)) (h : q_step q_tb sh sc I pc len ins L S w = some (.inl (pc', L', S', w'))) : W p l e R s m args below meth c H locs cells slots Q (F0 m pc ls (S.map (q_iv ad))) := by
  have hx := F.1
  have hb := F.2.1
  have hown := F.2.2.2.2.1
  have hts := F.2.2.2.2.2.1
  have hl := rel.2.2.2.1
  have hn := rel.2.2.2.2
  have bin : ∀ {f : Int32 → Int32 → Int32}, q_b1 len pc L S w f = some (.inl (pc', L', S', w')) → (∀ (x y : Int32) (r : List Value), len = 1 → S = .int y :: .int x :: r → W p l e R s m args below meth c H locs cells slots Q (F0 m (pc + 1) ls (.int (f x y) :: r.map (q_iv ad))) → W p l e R s m args below meth c H locs cells slots Q (F0 m pc ls (S.map (q_iv ad)))) → W p l e R s m args below meth c H locs cells slots Q (F0 m pc ls (S.map (q_iv ad))) := by
    intro f hf k
    obtain ⟨x, y, r, h1, h2, rfl, rfl, rfl, rfl⟩ := q_b1_eq hf
    exact k x y r h1 h2 (kk _ _ _ rel)
  have gos : ∀ {n : Nat} {S1 : List Value}, q_go (pc + n) L S1 w = some (.inl (pc', L', S', w')) → W p l e R s m args below meth c H locs cells slots Q (F0 m (pc + n) ls (S1.map (q_iv ad))) := by
    intro n S1 hg
    obtain ⟨rfl, rfl, rfl, rfl⟩ := q_go_eq hg
    exact kk _ _ _ rel
  cases ins with
  | iconst n =>
    unfold q_step at h; dsimp only at h
    split at h
    · rename_i hlen; subst hlen
      exact lv_iconst hx hb hd (q_ic_eq n) (gos h)
    · cases h
  | bipush n =>
    unfold q_step at h; dsimp only at h
    split at h
    · rename_i hlen; obtain ⟨rfl, h1, h2⟩ := hlen
      exact lv_bipush hx hb hd (q_ic8 h1 h2) (gos h)
    · cases h
  | sipush n =>
    unfold q_step at h; dsimp only at h
    split at h
    · rename_i hlen; obtain ⟨rfl, h1⟩ := hlen
      exact lv_sipush hx hb hd h1 (gos h)
    · cases h
  | aconst_null =>
    unfold q_step at h; dsimp only at h
    split at h
    · rename_i hlen; subst hlen
      exact lv_null hx hb hd (gos h)
    · cases h
  | ldc i =>
    unfold q_step at h; dsimp only at h
    split at h
    · rename_i hlen; subst hlen
      split at h
      · rename_i v hv
        exact lv_ldc hx hb hown (hts _ (q_ldc_ok hv)) hd (gos h)
      · cases h
    · cases h
  | ldc_w i =>
    unfold q_step at h; dsimp only at h
    split at h
    · rename_i hlen; subst hlen
      split at h
      · rename_i v hv
        exact lv_ldcw hx hb hown (hts _ (q_ldc_ok hv)) hd (gos h)
      · cases h
    · cases h
  | ldc2_w i =>
    unfold q_step at h; dsimp only at h
    split at h
    · rename_i hlen; subst hlen
      split at h
      · rename_i v hv
        exact lv_ldc2 hx hb hown (hts _ (q_ldl_ok hv)) hd (gos h)
      · cases h
    · cases h
  | iload_n k => unfold q_step at h; exact (q_load1 F rel kk).1 k hd h
  | iload k => unfold q_step at h; exact (q_load1 F rel kk).2.1 k hd h
  | lload_n k => unfold q_step at h; exact (q_load1 F rel kk).2.2.1 k hd h
  | aload_n k => unfold q_step at h; exact (q_load1 F rel kk).2.2.2.1 k hd h
  | aload k => unfold q_step at h; exact (q_load1 F rel kk).2.2.2.2 k hd h
  | istore_n k => unfold q_step at h; exact (q_store1 F rel kk).1 k hd h
  | istore k => unfold q_step at h; exact (q_store1 F rel kk).2.1 k hd h
  | astore_n k => unfold q_step at h; exact (q_store1 F rel kk).2.2.1 k hd h
  | astore k => unfold q_step at h; exact (q_store1 F rel kk).2.2.2 k hd h
  | lstore_n k =>
    unfold q_step at h; dsimp only at h
    split at h
    · rename_i x r
      split at h
      · rename_i L1 hL1
        obtain ⟨rfl, rfl, rfl, rfl⟩ := q_go_eq h
        have hk := q_st2_lt hL1
        rw [hn] at hk
        refine lv_lstore_n hx hb hd rfl hl hk rfl (fun ls' h3 => ?_)
        obtain ⟨h4, h5⟩ := q_lv_set2 (v := .long x) hL1 h3
        exact kk _ _ _ ⟨rel.1, rel.2.1, rel.2.2.1, h4, by rw [h5]; exact hn⟩
      · cases h
    · cases h
  | iinc i n =>
    unfold q_step at h; dsimp only at h
    split at h
    · rename_i hlen; subst hlen
      split at h
      · rename_i x hx0
        split at h
        · rename_i L1 hL1
          obtain ⟨rfl, rfl, rfl, rfl⟩ := q_go_eq h
          have hk := q_st_lt hL1
          rw [hn] at hk
          obtain ⟨j, hj⟩ := List.getElem?_of_mem (q_lv_mem (ad := ad).mpr ⟨_, hx0, rfl⟩)
          refine lv_iinc (v := x + q_ic n) hx hb hd hl hj (by rw [q_ic_eq]) hk rfl (fun ls' h3 => ?_)
          obtain ⟨h4, h5⟩ := q_lv_set (v := .int (x + q_ic n)) hL1 h3
          exact kk _ _ _ ⟨rel.1, rel.2.1, rel.2.2.1, h4, by rw [h5]; exact hn⟩
        · cases h
      · cases h
    · cases h
  | dup =>
    unfold q_step at h; dsimp only at h
    split at h
    · rename_i v r
      split at h
      · rename_i hv
        exact lv_dup hx hb hd (by rw [q_iv_cat]; exact hv) (gos h)
      · cases h
    · cases h
  | dup2 =>
    unfold q_step at h; dsimp only at h
    split at h
    · rename_i a b r
      split at h
      · rename_i hv
        exact lv_dup2_11 hx hb hd (by rw [q_iv_cat]; exact hv.1) (by rw [q_iv_cat]; exact hv.2) (gos h)
      · cases h
    · cases h
  | iadd => unfold q_step at h; exact bin h (fun x y r h1 h2 k => by subst h1; subst h2; exact lv_iadd hx hb hd k)
  | isub => unfold q_step at h; exact bin h (fun x y r h1 h2 k => by subst h1; subst h2; exact lv_isub hx hb hd k)
  | imul => unfold q_step at h; exact bin h (fun x y r h1 h2 k => by subst h1; subst h2; exact lv_imul hx hb hd k)
  | iand => unfold q_step at h; exact bin h (fun x y r h1 h2 k => by subst h1; subst h2; exact lv_iand hx hb hd k)
  | ior => unfold q_step at h; exact bin h (fun x y r h1 h2 k => by subst h1; subst h2; exact lv_ior hx hb hd k)
  | ixor => unfold q_step at h; exact bin h (fun x y r h1 h2 k => by subst h1; subst h2; exact lv_ixor hx hb hd k)
  | ishl => unfold q_step at h; exact bin h (fun x y r h1 h2 k => by subst h1; subst h2; exact lv_ishl hx hb hd k)
  | ishr => unfold q_step at h; exact bin h (fun x y r h1 h2 k => by subst h1; subst h2; exact lv_ishr hx hb hd k)
  | iushr => unfold q_step at h; exact bin h (fun x y r h1 h2 k => by subst h1; subst h2; exact lv_iushr hx hb hd rfl k)
  | idiv =>
    unfold q_step at h; dsimp only at h
    split at h
    · split at h
      · cases h
      · rename_i hy
        exact lv_idiv hx hb hd hy (gos h)
    · cases h
  | irem =>
    unfold q_step at h; dsimp only at h
    split at h
    · split at h
      · cases h
      · rename_i hy
        exact lv_irem hx hb hd hy (gos h)
    · cases h
  | i2l =>
    unfold q_step at h
    obtain ⟨x, r, rfl, rfl, rfl, rfl, rfl, rfl⟩ := q_u1_eq h
    exact lv_i2l hx hb hd rfl (kk _ _ _ rel)
  | i2b =>
    unfold q_step at h
    obtain ⟨x, r, rfl, rfl, rfl, rfl, rfl, rfl⟩ := q_u1_eq h
    exact lv_i2b hx hb hd rfl (kk _ _ _ rel)
  | i2s =>
    unfold q_step at h
    obtain ⟨x, r, rfl, rfl, rfl, rfl, rfl, rfl⟩ := q_u1_eq h
    exact lv_i2s hx hb hd rfl (kk _ _ _ rel)
  | ladd =>
    unfold q_step at h; dsimp only at h
    split at h
    · exact lv_ladd hx hb hd (gos h)
    · cases h
  | lmul =>
    unfold q_step at h; dsimp only at h
    split at h
    · exact lv_lmul hx hb hd (gos h)
    · cases h
  | lcmp =>
    unfold q_step at h; dsimp only at h
    split at h
    · exact W.lcmp hx hb hd (gos h)
    · cases h
  | ifCond cd off => exact (q_br F rel kk).1 cd off hd h
  | if_icmp cd off => exact (q_br F rel kk).2 cd off hd h
  | ifnull off =>
    unfold q_step at h; dsimp only at h
    split at h
    · split at h
      · rename_i t ht
        obtain ⟨rfl, rfl, rfl, rfl⟩ := q_go_eq h
        exact lv_ifnullN hx hb hd (q_to_eq ht) (kk _ _ _ rel)
      · cases h
    · exact lv_ifnull hx hb hd (gos h)
    · cases h
  | ifnonnull off =>
    unfold q_step at h; dsimp only at h
    split at h
    · split at h
      · rename_i t ht
        obtain ⟨rfl, rfl, rfl, rfl⟩ := q_go_eq h
        exact lv_ifnonnull hx hb hd (q_to_eq ht) (kk _ _ _ rel)
      · cases h
    · exact lv_ifnonnullN hx hb hd (gos h)
    · cases h
  | goto off =>
    unfold q_step at h; dsimp only at h
    split at h
    · rename_i hlen; subst hlen
      split at h
      · rename_i t ht
        obtain ⟨rfl, rfl, rfl, rfl⟩ := q_go_eq h
        exact lv_goto hx hb hd (q_to_eq ht) (kk _ _ _ rel)
      · cases h
    · cases h
  | tableswitch d lo hi offs =>
    unfold q_step at h; dsimp only at h
    split at h
    · rename_i x r
      split at h
      · rename_i hc
        split at h
        · rename_i t ht
          obtain ⟨rfl, rfl, rfl, rfl⟩ := q_go_eq h
          exact lv_tableOut hx hb hd hc (q_to_eq ht) (kk _ _ _ rel)
        · cases h
      · rename_i hc
        split at h
        · rename_i o ho
          split at h
          · rename_i t ht
            obtain ⟨rfl, rfl, rfl, rfl⟩ := q_go_eq h
            exact lv_tableIn hx hb hd (fun g => hc (Or.inl g)) (fun g => hc (Or.inr g)) ho (q_to_eq ht) (kk _ _ _ rel)
          · cases h
        · cases h
    · cases h
  | getfield i => exact q_getf F rel kk hd h
  | putfield i => exact q_putf F rel kk hd h
  | arraylength => exact (q_arr2 F rel kk).2 hd h
  | aaload => exact (q_arr2 F rel kk).1 hd h
  | iaload => unfold q_step at h; exact q_aload0 F rel kk hd h
  | baload => unfold q_step at h; exact q_aload1 F rel kk hd h
  | iastore => unfold q_step at h; exact (q_astore01 F rel kk).1 hd h
  | bastore => unfold q_step at h; exact (q_astore01 F rel kk).2 hd h
  | invokestatic i =>
    unfold q_step at h; dsimp only at h
    split at h
    · rename_i hlen; subst hlen
      split at h
      · rename_i hc
        exact (q_acopy F rel kk hc.1).1 hc.2 hd h
      · split at h
        · rename_i hc
          exact (q_acopy F rel kk hc.1).2 hc.2 hd h
        · split at h
          · split at h
            · simp at h
            · cases h
          · cases h
    · cases h
  | invokevirtual i =>
    unfold q_step at h; dsimp only at h
    split at h
    · split at h
      · split at h
        · split at h
          · simp at h
          · cases h
        · cases h
      · cases h
    · cases h
  | ireturn =>
    unfold q_step at h; dsimp only at h
    split at h
    · simp at h
    · split at h
      · simp at h
      · cases h
    · cases h
  | lreturn =>
    unfold q_step at h; dsimp only at h
    split at h
    · simp at h
    · cases h
  | areturn =>
    unfold q_step at h; dsimp only at h
    split at h
    · split at h
      · simp at h
      · cases h
    · cases h
  | return_ =>
    unfold q_step at h; dsimp only at h
    split at h
    · simp at h
    · cases h
  | _ => unfold q_step at h; cases h
end Q8
end
section
/-! THE WHOLE RUN of the pure machine is a run of the machine; so each method's contract is what the pure machine answers -/
def q_wsm (I : qI) : List Cond := Cond.code (mY I) (mB I) (mL I) (mR I) :: q_tbl
def q_rm (I : qI) : Room := { frames := mF I, cells := 0, slots := 0, locals := mK I }
theorem q_tbl_good : ∀ w ∈ q_tbl, (w.onTables && w.keeps) = true ∨ ∃ ty, w = .arrayClass ty := fun _ h => good_of_word (List.mem_filter.mp h).2
theorem q_wsm_in {I : qI} (hc : Cond.code (mY I) (mB I) (mL I) (mR I) ∈ q_tbl) : GoodIn q_tbl (q_wsm I) := by
  intro w hw
  rcases List.mem_cons.mp hw with rfl | hw
  · exact ⟨hc, q_tbl_good _ hc⟩
  · exact ⟨hw, q_tbl_good _ hw⟩
/-- what is so where a method begins -/
def q_Bg (D : va_G) (ad : Nat → Nat) (cA : Nat → ClassId) (tys : List (ClassId × FieldType)) (sh : List qS) (w : qW) (sz : Nat) (U : State) : Prop :=
  U.heap.size = sz ∧ va_P D q_cl (q_ws ad cA sh w) U.heap ∧ va_K D q_cl tys U ∧ va_D (fun _ => True) (q_ws ad cA sh w) ∧ q_NW U
/-- and behind it -/
def q_Qm (D : va_G) (ad : Nat → Nat) (cA : Nat → ClassId) (sh : List qS) (w : qW) (sz : Nat) (r : Option Value × qW) : Array Value → State → Outcome → State → Prop := fun _ st oc t =>
  (oc = .returned (r.1.map (q_iv ad)) ∧ va_P D q_cl (q_ws ad cA sh r.2) t.heap) ∧ va_F (va_A (q_ws ad cA sh w) sz) st t
def q_Mt (l : Launch) (D : va_G) (ad : Nat → Nat) (cA : Nat → ClassId) (tys : List (ClassId × FieldType)) (sh : List qS) (I : qI) (as : List Value) (w : qW) (r : Option Value × qW) : Prop :=
  ∀ sz : Nat, Met l (mY I) (q_wsm I) (q_rm I) (va_Pc (as.map (q_iv ad)) (q_Bg D ad cA tys sh w sz)) (q_Qm D ad cA sh w sz r) 0 0 (va_A (q_ws ad cA sh w) sz)
/-- the pure machine's return, at pc -/
def q_RT (I : qI) (pc : Nat) (v : Option Value) : Prop := match v with
  | none => decode (mB I) pc = .ok (.return_, 1) ∧ mR I = none
  | some (.int x) => decode (mB I) pc = .ok (.ireturn, 1) ∧ (mR I = some .int ∨ (mR I = some .boolean ∧ narrow .boolean (.int x) = .int x))
  | some (.long _) => decode (mB I) pc = .ok (.lreturn, 1) ∧ mR I = some .long
  | some v => decode (mB I) pc = .ok (.areturn, 1) ∧ (∃ n, mR I = some (.object n)) ∧ (v = .null ∨ ∃ a, v = .ref a)
theorem q_ret_eq {tb : qT} {sh : List qS} {sc : qX} {I : qI} {pc len : Nat} {ins : Instr} {L : qL} {S : List Value} {w : qW} {r : Option Value × qW} (hd : decode (mB I) pc = .ok (ins, len)) (h : q_step tb sh sc I pc len ins L S w = some (.inr (.inl r))) : q_RT I pc r.1 ∧ S = r.1.toList ∧ r.2 = w := by
  cases ins with
  | ireturn =>
    unfold q_step at h; dsimp only at h
    split at h
    · rename_i hr
      simp only [Option.some.injEq, Sum.inr.injEq, Sum.inl.injEq] at h
      subst h
      exact ⟨⟨hd, Or.inl hr⟩, rfl, rfl⟩
    · rename_i hr
      split at h
      · rename_i hn
        simp only [Option.some.injEq, Sum.inr.injEq, Sum.inl.injEq] at h
        subst h
        exact ⟨⟨hd, Or.inr ⟨hr, hn⟩⟩, rfl, rfl⟩
      · cases h
    · cases h
  | lreturn =>
    unfold q_step at h; dsimp only at h
    split at h
    · rename_i hr
      simp only [Option.some.injEq, Sum.inr.injEq, Sum.inl.injEq] at h
      subst h
      exact ⟨⟨hd, hr⟩, rfl, rfl⟩
    · cases h
  | areturn =>
    unfold q_step at h; dsimp only at h
    split at h
    · rename_i v n hr
      split at h
      · rename_i hv
        simp only [Option.some.injEq, Sum.inr.injEq, Sum.inl.injEq] at h
        subst h
        cases v <;> first | (simp [q_va] at hv; done) | exact ⟨⟨hd, ⟨_, hr⟩, Or.inl rfl⟩, rfl, rfl⟩ | exact ⟨⟨hd, ⟨_, hr⟩, Or.inr ⟨_, rfl⟩⟩, rfl, rfl⟩
      · cases h
    · cases h
  | return_ =>
    unfold q_step at h; dsimp only at h
    split at h
    · rename_i hr
      simp only [Option.some.injEq, Sum.inr.injEq, Sum.inl.injEq] at h
      subst h
      exact ⟨⟨hd, hr⟩, rfl, rfl⟩
    · cases h
  | _ =>
    unfold q_step at h
    simp only [q_go, q_ld, q_sv, q_b1, q_u1, q_al, q_as, q_ac, q_mn, q_if] at h
    repeat' split at h
    all_goals first | (simp at h; done) | cases h
theorem q_entl {ad : Nat → Nat} {as : List Value} {n : Nat} {L0 : qL} (h : q_ent n as = some L0) : L0.length = n ∧ lv_has ((lg_sl (as.map (q_iv ad)) ++ List.replicate (n - (lg_sl (as.map (q_iv ad))).length) Slot.unset).toArray) n (q_lv ad L0) := by
  have hlen : ∀ (as : List Value), (lg_sl (as.map (q_iv ad))).length = (q_en as).length := by
    intro as
    induction as with
    | nil => rfl
    | cons v r ih =>
      have hc := q_iv_cat ad v
      have e1 : lg_sl ((v :: r).map (q_iv ad)) = (if (q_iv ad v).category = 2 then [.val (q_iv ad v), .second] else [.val (q_iv ad v)]) ++ lg_sl (r.map (q_iv ad)) := rfl
      rw [e1, List.length_append, ih, hc]
      by_cases h2 : v.category = 2
      · simp [q_en, h2]; omega
      · simp [q_en, h2]; omega
  unfold q_ent at h
  split at h
  · rename_i hle
    cases h
    refine ⟨by simp; omega, ?_⟩
    refine lv_mono (lv_entry (as.map (q_iv ad)) (by rw [hlen]; exact hle)) (fun q hq => ?_)
    obtain ⟨i, u⟩ := q
    obtain ⟨v, hv, rfl⟩ := q_lv_mem.mp hq
    have hv' : (q_en as)[i]? = some (some v) := by
      by_cases hi : i < (q_en as).length
      · rwa [List.getElem?_append_left hi] at hv
      · rw [List.getElem?_append_right (by omega)] at hv
        rw [List.getElem?_replicate] at hv
        split at hv <;> cases hv
    have gen : ∀ (as : List Value) (b i : Nat), (q_en as)[i]? = some (some v) → (b + i, q_iv ad v) ∈ lv_args b (as.map (q_iv ad)) := by
      intro as
      induction as with
      | nil => intro b i h; simp [q_en] at h
      | cons a r ih =>
        intro b i h
        have hc := q_iv_cat ad a
        by_cases h2 : a.category = 2
        · simp only [q_en, h2, if_true] at h
          simp only [List.map_cons, lv_args, hc, h2, if_true]
          match i, h with
          | 0, h => simp at h; subst h; exact List.mem_cons_self
          | 1, h => simp at h
          | i + 2, h =>
            have := ih (b + 2) i (by simpa using h)
            refine List.mem_cons_of_mem _ ?_
            rw [show b + (i + 2) = b + 2 + i by omega]
            exact this
        · simp only [q_en, h2, if_false] at h
          simp only [List.map_cons, lv_args, hc, h2, if_false]
          match i, h with
          | 0, h => simp at h; subst h; exact List.mem_cons_self
          | i + 1, h =>
            have := ih (b + 1) i (by simpa using h)
            refine List.mem_cons_of_mem _ ?_
            rw [show b + (i + 1) = b + 1 + i by omega]
            exact this
    have := gen as 0 i hv'
    simpa using this
  · cases h

section Q9
variable {p : Program} {l : Launch} {e : Env} {R : Room} {s : State} {m : MethodId} {args : Array Value} {below : List Frame} {meth : Method} {c : Code} {H : Heap} {locs : List Loc} {cells slots : Nat} {Q : State → Prop}
variable {D : va_G} {ad : Nat → Nat} {cA : Nat → ClassId} {tys : List (ClassId × FieldType)} {sh : List qS} {sc : qX} {I : qI} {A : Nat → Prop} {pc len pc' : Nat} {ins : Instr} {L L' : qL} {S S' : List Value} {w w' : qW} {ls : Array Slot}
/-- behind a call that answers v and leaves P1 -/
theorem q_behind {mc ms : Nat} {st0 rest : List Value} {v : Option Value} {P1 : Heap → Prop} {A0 A1 : Nat → Prop} {H0 : Heap} {free : Addr → Prop} (hr : va_Run p l e R s m args below meth c H locs cells slots mc ms (F0 m pc ls st0) rest (fun st oc t => (oc = .returned v ∧ P1 t.heap) ∧ va_F A1 st t) free) (hS : va_S A0 H0 H locs) (hA : ∀ q, q < H.size → A1 q → A0 q) (hf : ∀ q, free q → A0 q)
    (kk : ∀ (H1 : Heap) (locs1 : List Loc), P1 H1 → va_S A0 H0 H1 locs1 → W p l e R s m args below meth c H1 locs1 (cells + mc) (slots + ms) Q (F0 m (pc + 3) ls (v.toList ++ rest))) : W p l e R s m args below meth c H locs cells slots Q (F0 m pc ls st0) := by
  intro T hT X
  obtain ⟨v', st₀, t, T', L, h0, X', hL, e1, e2, ⟨⟨hv, hb⟩, hz, hk⟩, st⟩ := hr T hT X
  cases hv
  rw [h0] at hz hk
  obtain ⟨t2, a1, b1⟩ := kk T'.heap (locs ++ L) (by rw [e1]; exact hb)
    ⟨Nat.le_trans hS.1 (by rw [e1]; exact hz), fun q h1 h2 => by rw [e1, hk q (Nat.lt_of_lt_of_le h1 hS.1) (fun z => h2 (hA q (Nat.lt_of_lt_of_le h1 hS.1) z))]; exact hS.2.1 q h1 h2, fun q hq => by
      rcases List.mem_append.mp hq with h | h
      · exact hS.2.2 q h
      · exact hf _ (hL q h)⟩ T' rfl X'
  exact ⟨t2, st t2 a1, b1⟩
theorem q_Bg_blind {av : List Value} {sz : Nat} : FrameBlind (va_Pc av (q_Bg D ad cA tys sh w sz)) := by
  intro a U g mk q
  obtain ⟨q0, q1, q2, q3, q4, q5⟩ := q
  exact ⟨q0, q1, q2, va_K.moved (u := U) (U := U.calling g mk a) (Vm.Alike.refl U.vm) q3, q4, q_NW_same (s := U) (U := U.calling g mk a) rfl q5⟩
theorem q_Bg_at (F : q_FX p R s m args meth c D ad cA tys sh sc I A cells slots) (rel : q_RL s D ad cA sh I A H locs L w ls) {U : State} (hU : U.heap = H) (hW : s.WarmedH U.vm) : q_Bg D ad cA tys sh w H.size U :=
  ⟨by rw [hU], by rw [hU]; exact rel.1, va_K.moved hW.alike F.2.2.2.2.2.2.2.2.1, rel.2.1.weaken (fun _ _ _ _ => trivial), q_NW_warm hW F.2.2.2.2.2.2.1⟩
set_option maxHeartbeats 8000000 in
theorem q_sndc {I' : qI} {as : List Value} {r : Option Value × qW} (F : q_FX p R s m args meth c D ad cA tys sh sc I A cells slots) (rel : q_RL s D ad cA sh I A H locs L w ls)
    (hd : decode (mB I) pc = .ok (ins, len)) (h : q_step q_tb sh sc I pc len ins L S w = some (.inr (.inr (I', as, pc', L', S', w'))))
    (hM : Cond.code (mY I') (mB I') (mL I') (mR I') ∈ q_tbl → plainName (mY I').cls = true → (mY I').cls = q_nm (mC I') → q_Mt l D ad cA tys sh I' as w' r)
    (kk : ∀ (H' : Heap) (locs' : List Loc) (ls' : Array Slot), q_RL s D ad cA sh I A H' locs' L' r.2 ls' → W p l e R s m args below meth c H' locs' cells slots Q (F0 m pc' ls' ((r.1.toList ++ S').map (q_iv ad)))) : W p l e R s m args below meth c H locs cells slots Q (F0 m pc ls (S.map (q_iv ad))) := by
  have F' := F
  obtain ⟨hx, hb, hml, hr, hown, hts, hNW, hR, hK, hTY, hA, hsc⟩ := F
  have rel' := rel
  obtain ⟨hP, hD, hS, hl, hn⟩ := rel
  have fin : ∀ {rest : List Value}, L' = L → S' = rest → pc' = pc + 3 → va_Run p l e R s m args below meth c H locs cells slots 0 0 (F0 m pc ls (S.map (q_iv ad))) (rest.map (q_iv ad)) (q_Qm D ad cA sh w H.size r (as.map (q_iv ad)).toArray) (va_A (q_ws ad cA sh w) H.size) → W p l e R s m args below meth c H locs cells slots Q (F0 m pc ls (S.map (q_iv ad))) := by
    intro rest h1 h2 h3 hrun
    subst h1; subst h2; subst h3
    have hfree : ∀ q, va_A (q_ws ad cA sh w) H.size q → A q := by
      intro q hq
      rcases hq with ⟨k, x, hk⟩ | hq
      · exact hD.2 k _ hk
      · exact hA q (Nat.le_trans hS.1 hq)
    refine q_behind hrun hS (fun q _ h => hfree q h) hfree (fun H1 locs1 g1 g2 => ?_)
    have k1 := kk H1 locs1 ls ⟨g1, q_ws_D hD, g2, hl, hn⟩
    have e1 : (r.1.toList ++ S').map (q_iv ad) = (r.1.map (q_iv ad)).toList ++ S'.map (q_iv ad) := by
      rw [List.map_append]
      cases r.1 <;> rfl
    rw [e1] at k1
    exact k1
  have rest8 : ∀ {rest : List Value}, q_cat rest ≤ 8 → 2 * (F0 m pc ls (S.map (q_iv ad))).monitorRoom + ((rest.map (q_iv ad)).map fun v => v.category).sum ≤ 8 := fun h => q_room_rest h
  cases ins with
  | invokestatic i =>
    unfold q_step at h; dsimp only at h
    split at h
    · rename_i hlen; subst hlen
      split at h
      · unfold q_ac at h
        repeat' split at h
        all_goals first | (simp [q_go] at h; done) | cases h
      · split at h
        · unfold q_mn at h
          repeat' split at h
          all_goals first | (simp [q_go] at h; done) | cases h
        · split at h
          · rename_i k I1 n hc
            split at h
            · rename_i hcond
              obtain ⟨hk, hnS, hcl⟩ := hcond
              simp only [Option.some.injEq, Sum.inr.injEq, Prod.mk.injEq] at h
              obtain ⟨rfl, rfl, hpc', hL', hS', hw'⟩ := h
              subst hw'
              obtain ⟨⟨okc, oki, ⟨okd1, okd2, okd3⟩, okp, okn⟩, oks, -, okl, okn2⟩ := q_call_ok hc
              dsimp only at okc oki okd1 okd2 okd3 okp okn oks okl okn2
              have hMt := hM okc okp okn
              simp only [q_cl1, decide_eq_true_eq] at hcl
              obtain ⟨c1, c2, c3⟩ := hcl
              have hpre : PreS s H (va_Pc ((S.take n).reverse.map (q_iv ad)) (q_Bg D ad cA tys sh w H.size)) ((S.take n).reverse.map (q_iv ad)) := ⟨q_Bg_blind, fun U hU hW => ⟨rfl, q_Bg_at F' rel' hU hW⟩⟩
              have hlen' : ((S.take n).reverse.map (q_iv ad)).length = n := by simp; omega
              have hstack : S.map (q_iv ad) = ((S.take n).reverse.map (q_iv ad)).reverse ++ (S.drop n).map (q_iv ad) := by
                rw [← List.map_reverse, List.reverse_reverse, ← List.map_append, List.take_append_drop]
              have hfix : CallFix p m c (mB I) (mL I) s args q_tbl (q_nm (mC I)) := ⟨hx, hb, hml, hown, hts⟩
              have hroom : (q_rm I1).frames + 1 ≤ R.frames ∧ 8 + (mL I1 + 11) + (q_rm I1).locals ≤ R.locals := ⟨Nat.le_trans c1 hR.1, Nat.le_trans c2 hR.2.1⟩
              refine fin (rest := S.drop n) hL'.symm hS'.symm hpc'.symm ?_
              rcases okn2 with h0 | h0 | h0
              · exact va_runS hfix (hMt H.size) ⟨callB_of n hts (q_wsm_in okc) rfl rfl rfl (hts _ oki) (hts _ (okl (Or.inl h0))) ⟨okd1, okd2, okd3⟩ hroom, hts _ (oks hk)⟩ hpre rfl hlen' hl.1 hstack (rest8 c3) hd ⟨hR.2.2.1, hR.2.2.2⟩
              · omega
              · exact va_runSN (host := "PrickedPages") hfix (hMt H.size) ⟨va_cnB n hts (q_wsm_in okc) rfl rfl rfl (hNW.2 _ h0) (hts _ oki) ⟨okd1, okd2, okd3⟩ hroom, hts _ (oks hk), trivial⟩ hpre rfl hlen' hl.1 hstack (rest8 c3) hd ⟨hR.2.2.1, hR.2.2.2⟩
            · cases h
          · cases h
    · cases h
  | invokevirtual i =>
    unfold q_step at h; dsimp only at h
    split at h
    · rename_i hlen; subst hlen
      split at h
      · rename_i k I1 n hc
        split at h
        · rename_i b rst hdrop
          split at h
          · rename_i hcond
            obtain ⟨hk, hnS, hcl, hob⟩ := hcond
            simp only [Option.some.injEq, Sum.inr.injEq, Prod.mk.injEq] at h
            obtain ⟨rfl, rfl, hpc', hL', hS', hw'⟩ := h
            subst hw'
            obtain ⟨⟨okc, oki, ⟨okd1, okd2, okd3⟩, okp, okn⟩, -, oks, okl, okn2⟩ := q_call_ok hc
            dsimp only at okc oki okd1 okd2 okd3 okp okn oks okl okn2
            have hMt := hM okc okp okn
            obtain ⟨os1, os2, T, N, os3⟩ := oks hk
            simp only [q_cl1, decide_eq_true_eq] at hcl
            obtain ⟨c1, c2, c3⟩ := hcl
            have hrecv : ∃ cellB : Cell, H[ad b]? = some cellB ∧ cellB.vm.isStatics = false ∧ s.vm.findClass (mY I1).cls = some cellB.cls := by
              unfold q_isobj at hob
              split at hob
              · rename_i c' fs hsh
                simp only [beq_iff_eq] at hob
                subst hob
                exact va_recv hK hP os3 (q_ws_at hsh)
              · cases hob
            have hpre : PreV s H (mY I1).cls (ad b) (va_Pc ((Value.ref b :: (S.take n).reverse).map (q_iv ad)) (q_Bg D ad cA tys sh w H.size)) ((S.take n).reverse.map (q_iv ad)) := ⟨q_Bg_blind, hrecv, fun U hU hW => ⟨rfl, q_Bg_at F' rel' hU hW⟩⟩
            have hlen' : ((S.take n).reverse.map (q_iv ad)).length = n := by simp; omega
            have hstack : S.map (q_iv ad) = ((S.take n).reverse.map (q_iv ad)).reverse ++ Value.ref (ad b) :: rst.map (q_iv ad) := by
              have : Value.ref (ad b) :: rst.map (q_iv ad) = (S.drop n).map (q_iv ad) := by rw [hdrop]; rfl
              rw [this, ← List.map_reverse, List.reverse_reverse, ← List.map_append, List.take_append_drop]
            have hfix : CallFix p m c (mB I) (mL I) s args q_tbl (q_nm (mC I)) := ⟨hx, hb, hml, hown, hts⟩
            have hroom : (q_rm I1).frames + 1 ≤ R.frames ∧ 8 + (mL I1 + 11) + (q_rm I1).locals ≤ R.locals := ⟨Nat.le_trans c1 hR.1, Nat.le_trans c2 hR.2.1⟩
            refine fin (rest := rst) hL'.symm hS'.symm hpc'.symm ?_
            rcases okn2 with h0 | h0 | h0
            · omega
            · exact va_runV hfix (hMt H.size) ⟨callB_of n hts (q_wsm_in okc) rfl rfl rfl (hts _ oki) (hts _ (okl (Or.inr h0))) ⟨okd1, okd2, okd3⟩ hroom, hts _ os1, hts _ os2⟩ hpre rfl hlen' hl.1 hstack (rest8 c3) hd ⟨hR.2.2.1, hR.2.2.2⟩
            · exact va_runVN (host := "PrickedPages") hfix (hMt H.size) ⟨va_cnB n hts (q_wsm_in okc) rfl rfl rfl (hNW.2 _ h0) (hts _ oki) ⟨okd1, okd2, okd3⟩ hroom, hts _ os1, hts _ os2⟩ hpre rfl hlen' hl.1 hstack (rest8 c3) hd ⟨hR.2.2.1, hR.2.2.2⟩
          · cases h
        · cases h
      · cases h
    · cases h
  | _ =>
    unfold q_step at h
    simp only [q_go, q_ld, q_sv, q_b1, q_u1, q_al, q_as, q_ac, q_mn, q_if] at h
    repeat' split at h
    all_goals first | (simp at h; done) | cases h
end Q9
end
section
/-! THE RUN -/
section Q10
variable {p : Program} {e : Env} {R : Room} {s : State} {m : MethodId} {args : Array Value} {below : List Frame} {meth : Method} {c : Code} {H : Heap} {locs : List Loc} {cells slots : Nat} {Q : State → Prop}
variable {D : va_G} {ad : Nat → Nat} {cA : Nat → ClassId} {tys : List (ClassId × FieldType)} {sh : List qS}
def q_Ok (l : Launch) (D : va_G) (ad : Nat → Nat) (cA : Nat → ClassId) (tys : List (ClassId × FieldType)) (sh : List qS) (f : Nat) : Prop :=
  ∀ (sc : qX) (I : qI) (pc : Nat) (L : qL) (S : List Value) (w : qW) (r : Option Value × qW), q_ex q_tb sh f sc I pc L S w = some r →
    ∀ (p : Program) (e : Env) (R : Room) (s : State) (m : MethodId) (args : Array Value) (below : List Frame) (meth : Method) (c : Code) (H : Heap) (locs : List Loc) (cells slots : Nat) (Q : State → Prop) (A : Nat → Prop) (ls : Array Slot),
      q_FX p R s m args meth c D ad cA tys sh sc I A cells slots → q_RL s D ad cA sh I A H locs L w ls →
      (∀ (pc' : Nat) (ls' : Array Slot) (H' : Heap) (locs' : List Loc), va_P D q_cl (q_ws ad cA sh r.2) H' → va_S A s.heap H' locs' → q_RT I pc' r.1 → W p l e R s m args below meth c H' locs' cells slots Q (F0 m pc' ls' (r.1.toList.map (q_iv ad)))) →
      W p l e R s m args below meth c H locs cells slots Q (F0 m pc ls (S.map (q_iv ad)))
set_option maxHeartbeats 4000000 in
theorem q_met_of {l : Launch} {f : Nat} (ok : q_Ok l D ad cA tys sh f) (hTY : q_TY cA tys sh) {I : qI} {as : List Value} {w : qW} {L0 : qL} {r : Option Value × qW} (hc : Cond.code (mY I) (mB I) (mL I) (mR I) ∈ q_tbl) (hp : plainName (mY I).cls = true) (hn : (mY I).cls = q_nm (mC I))
    (he : q_ent (mL I) as = some L0) (h : q_ex q_tb sh f none I 0 L0 [] w = some r) : q_Mt l D ad cA tys sh I as w r := by
  intro sz
  refine Met.ofW (cc := mB I) (maxL := mL I) (ret := mR I) (ws' := q_tbl) hp rfl ?_
  intro p e s m args below meth c s₁ B hml hv
  obtain ⟨rfl, hsz, hP, hK, hD0, hNW⟩ := hv
  have hx := B.exec
  have hb := B.bytes
  have hr := B.returns
  have hts : ∀ w ∈ q_tbl, w.before (as.map (q_iv ad)).toArray s = true := fun w hw => atoms_spec (ws := q_wsm I) B.pre w (List.mem_cons_of_mem _ hw)
  have hown : s.vm.findClass (q_nm (mC I)) = some m.cls := by rw [← hn]; exact findClass_of_methodNamed B.named
  have hlocks := B.notSynchronized
  subst hsz
  obtain ⟨hL0, hl⟩ := q_entl (ad := ad) he
  rw [lg_entry_eq]
  generalize (lg_sl (as.map (q_iv ad)) ++ List.replicate (mL I - (lg_sl (as.map (q_iv ad))).length) Slot.unset).toArray = ls at hl ⊢
  have hA : ∀ q : Nat, s.heap.size ≤ q → va_A (q_ws ad cA sh w) s.heap.size q := fun q h => Or.inr h
  refine ok none I 0 L0 [] w r h p e (q_rm I) s m _ below meth c s.heap [] 0 0 _ (va_A (q_ws ad cA sh w) s.heap.size) ls ⟨hx, hb, hml, hr, hown, hts, hNW, ⟨Nat.le_refl _, Nat.le_refl _, Nat.le_refl _, Nat.le_refl _⟩, hK, hTY, hA, fun N xs h => by cases h⟩ ⟨hP, hD0.self, va_S.rf, hl, hL0⟩ ?_
  intro pc' ls' H' locs' g1 g2 g3
  obtain ⟨v, w'⟩ := r
  have post : ∀ (o : Outcome), o = .returned (v.map (q_iv ad)) → ∀ t : State, t.heap = H' → s.WarmedH t.vm → q_Qm D ad cA sh w s.heap.size (v, w') (as.map (q_iv ad)).toArray s o t := by
    intro o ho t ht _
    exact ⟨⟨ho, by rw [ht]; exact g1⟩, g2.F ht⟩
  cases v with
  | none => exact W.vret hx hb (hr.trans g3.2) (post _ rfl) g2.2.2 g3.1
  | some v =>
    cases v with
    | int x =>
      rcases g3.2 with h1 | ⟨h1, h2⟩
      · exact W.iret hx hb (hr.trans h1) (post _ rfl) g2.2.2 g3.1
      · exact W.zret hx hb (hr.trans h1) h2 (post _ rfl) g2.2.2 g3.1
    | long x => exact W.lret hx hb (hr.trans g3.2) (post _ rfl) g2.2.2 g3.1
    | null =>
      obtain ⟨h0, ⟨n, h1⟩, h2⟩ := g3
      exact W.aret hx hb (hr.trans h1) (Or.inl ⟨n, rfl⟩) (Or.inl rfl) (post _ rfl) g2.2.2 h0
    | ref a =>
      obtain ⟨h0, ⟨n, h1⟩, h2⟩ := g3
      exact W.aret hx hb (hr.trans h1) (Or.inl ⟨n, rfl⟩) (Or.inr ⟨_, rfl⟩) (post _ rfl) g2.2.2 h0
    | float x => obtain ⟨_, _, h2 | ⟨a, h2⟩⟩ := g3 <;> cases h2
    | double x => obtain ⟨_, _, h2 | ⟨a, h2⟩⟩ := g3 <;> cases h2
    | retAddr x => obtain ⟨_, _, h2 | ⟨a, h2⟩⟩ := g3 <;> cases h2
set_option maxHeartbeats 4000000 in
theorem q_sound (l : Launch) (hTY : q_TY cA tys sh) : ∀ f : Nat, q_Ok l D ad cA tys sh f := by
  intro f
  induction f with
  | zero => intro sc I pc L S w r h; simp [q_ex] at h
  | succ f ih =>
    intro sc I pc L S w r h p e R s m args below meth c H locs cells slots Q A ls F rel hQ
    rw [q_ex] at h
    cases hd : decode (mB I) pc with
    | error _ => rw [hd] at h; simp at h
    | ok il =>
      obtain ⟨ins, len⟩ := il
      rw [hd] at h
      dsimp only at h
      cases hs : q_step q_tb sh sc I pc len ins L S w with
      | none => rw [hs] at h; simp at h
      | some o =>
        rw [hs] at h
        rcases o with ⟨pc', L', S', w'⟩ | r' | ⟨I', as, pc', L', S', w'⟩
        · exact q_snd1 F rel (fun H' locs' ls' rel' => ih sc I pc' L' S' w' r h p e R s m args below meth c H' locs' cells slots Q A ls' F rel' hQ) hd hs
        · dsimp only at h
          cases h
          obtain ⟨g1, g2, g3⟩ := q_ret_eq hd hs
          subst g2
          exact hQ pc ls H locs (by rw [g3]; exact rel.1) rel.2.2.1 g1
        · dsimp only at h
          cases he : q_ent (mL I') as with
          | none => rw [he] at h; simp at h
          | some L0 =>
            rw [he] at h
            dsimp only at h
            cases hc : q_ex q_tb sh f none I' 0 L0 [] w' with
            | none => rw [hc] at h; simp at h
            | some vw =>
              obtain ⟨v, w2⟩ := vw
              rw [hc] at h
              dsimp only at h
              exact q_sndc (r := (v, w2)) F rel hd hs (fun g1 g2 g3 => q_met_of ih hTY g1 g2 g3 he hc) (fun H' locs' ls' rel' => ih sc I pc' L' (v.toList ++ S') w2 r h p e R s m args below meth c H' locs' cells slots Q A ls' F rel' hQ)
end Q10
end
