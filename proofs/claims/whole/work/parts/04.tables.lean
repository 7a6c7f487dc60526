/-! THE TABLES of this program: its methods, what its class files link, and that the Statement has the words for it -/
def q_tbl : List Cond := lw_tbl.filter goodWord
set_option maxRecDepth 100000 in
theorem q_t {w : Cond} (i : Nat) (h : tables_1[i]? = some w) (hg : goodWord w = true) : w ∈ q_tbl := List.mem_filter.mpr ⟨List.mem_append_right _ (List.mem_of_getElem? h), hg⟩
set_option maxRecDepth 100000 in
theorem q_s {w : Cond} (i : Nat) (h : (k2_sels lw_privs)[i]? = some w) (hg : goodWord w = true) : w ∈ q_tbl := List.mem_filter.mpr ⟨List.mem_append_left _ (List.mem_of_getElem? h), hg⟩
set_option maxRecDepth 100000 in
theorem q_lt {w : Cond} (i : Nat) (h : tables_1[i]? = some w) : w ∈ lw_tbl := List.mem_append_right _ (List.mem_of_getElem? h)
def q_nm (k : Nat) : String := match k with
  | 0 => RX0
  | 1 => RX1
  | 2 => RX2
  | 3 => RX3
  | 4 => RX4
  | 5 => RX5
  | 6 => RL
  | 7 => RJ6
  | 8 => RJ9
  | _ => RJ7
def q_cl : List vw_C := [(RX0, TX0, 3), (RX1, TX1, 4), (RX2, TX2, 2), (RX3, TX3, 5), (RX4, TX4, 14), (RX5, TX5, 25)]
def iX0_isLost : qI := (yX0_isLost, cX0_isLost, 1, (some .boolean), 0, 0, 0)
def iX0_renew : qI := (yX0_renew, cX0_renew, 3, none, 0, 1, 23)
def iX0_hasStretch : qI := (yX0_hasStretch, cX0_hasStretch, 3, (some .boolean), 0, 0, 0)
def iX0_store : qI := (yX0_store, cX0_store, 4, none, 0, 1, 22)
def iX1_add : qI := (yX1_add, cX1_add, 4, none, 1, 1, 22)
def iX1_pointsAt : qI := (yX1_pointsAt, cX1_pointsAt, 6, (some .int), 1, 1, 21)
def iX2_hasRoom : qI := (yX2_hasRoom, cX2_hasRoom, 1, (some .boolean), 2, 0, 0)
def iX2_append : qI := (yX2_append, cX2_append, 2, none, 2, 1, 22)
def iX3_has : qI := (yX3_has, cX3_has, 2, (some .boolean), 3, 1, 22)
def iX3_lettersOf : qI := (yX3_lettersOf, cX3_lettersOf, 2, (some .int), 3, 0, 0)
def iX3_letterOf : qI := (yX3_letterOf, cX3_letterOf, 4, (some .int), 3, 0, 0)
def iX3_split : qI := (yX3_split, cX3_split, 5, none, 3, 3, 67)
def iX3_firstFault : qI := (yX3_firstFault, cX3_firstFault, 6, (some .int), 3, 2, 42)
def iX4_type : qI := (yX4_type, cX4_type, 4, (some .int), 4, 5, 111)
def iX4_wipe : qI := (yX4_wipe, cX4_wipe, 4, (some .int), 4, 5, 111)
def iX4_fault : qI := (yX4_fault, cX4_fault, 2, (some .int), 4, 3, 64)
def iX4_sign : qI := (yX4_sign, cX4_sign, 4, (some .int), 4, 4, 85)
def iX4_read : qI := (yX4_read, cX4_read, 4, (some .int), 4, 4, 85)
def iX4_slip : qI := (yX4_slip, cX4_slip, 4, (some .int), 4, 4, 85)
def iX4_undo : qI := (yX4_undo, cX4_undo, 1, (some .int), 4, 4, 85)
def iX4_set : qI := (yX4_set, cX4_set, 4, (some .int), 4, 1, 22)
def iX4_often : qI := (yX4_often, cX4_often, 4, (some .int), 4, 1, 22)
def iX4_cell : qI := (yX4_cell, cX4_cell, 2, (some .int), 4, 2, 43)
def iX4_letter : qI := (yX4_letter, cX4_letter, 2, (some .int), 4, 2, 43)
def iX4_judged : qI := (yX4_judged, cX4_judged, 2, (some .int), 4, 2, 43)
def iX4_wrong : qI := (yX4_wrong, cX4_wrong, 2, (some .int), 4, 2, 43)
def iX4_mirrored : qI := (yX4_mirrored, cX4_mirrored, 2, (some .int), 4, 1, 22)
def iX4_both : qI := (yX4_both, cX4_both, 2, (some .int), 4, 5, 113)
def iX4_fits : qI := (yX4_fits, cX4_fits, 3, (some .int), 4, 3, 71)
def iX4_meant : qI := (yX4_meant, cX4_meant, 4, (some .int), 4, 4, 97)
def iX4_within : qI := (yX4_within, cX4_within, 6, (some .int), 4, 3, 71)
def iX4_line : qI := (yX4_line, cX4_line, 3, (some .int), 4, 4, 96)
def iX4_slippery : qI := (yX4_slippery, cX4_slippery, 4, (some .int), 4, 2, 41)
def iX4_better : qI := (yX4_better, cX4_better, 5, (some .int), 4, 3, 65)
def iX4_shorts : qI := (yX4_shorts, cX4_shorts, 4, (some .int), 4, 4, 94)
def iX4_under : qI := (yX4_under, cX4_under, 5, (some .int), 4, 3, 70)
def iX4_clash : qI := (yX4_clash, cX4_clash, 4, (some .int), 4, 2, 45)
def iX4_hand : qI := (yX4_hand, cX4_hand, 6, (some .int), 4, 1, 22)
def iX4_whose : qI := (yX4_whose, cX4_whose, 4, (some .int), 4, 5, 110)
def iX4_wear : qI := (yX4_wear, cX4_wear, 3, (some .int), 4, 3, 68)
def iX4_sheet : qI := (yX4_sheet, cX4_sheet, 5, (some .int), 4, 2, 45)
def iX4_lose : qI := (yX4_lose, cX4_lose, 4, (some .int), 4, 2, 45)
def iX4_put : qI := (yX4_put, cX4_put, 7, (some .int), 4, 2, 45)
def iX4_get : qI := (yX4_get, cX4_get, 6, (some .int), 4, 2, 44)
def iX4_copy : qI := (yX4_copy, cX4_copy, 8, (some .int), 4, 1, 40)
def iX4_write : qI := (yX4_write, cX4_write, 5, (some .int), 4, 2, 45)
def iX4_count : qI := (yX4_count, cX4_count, 2, (some .int), 4, 3, 65)
def iX4_digest : qI := (yX4_digest, cX4_digest, 4, (some .long), 4, 7, 159)
def iX4_mixCells : qI := (yX4_mixCells, cX4_mixCells, 6, (some .long), 4, 5, 120)
def iX4_mixWords : qI := (yX4_mixWords, cX4_mixWords, 6, (some .long), 4, 6, 134)
def iX4_mix : qI := (yX4_mix, cX4_mix, 4, (some .long), 4, 0, 0)
def iX4_at : qI := (yX4_at, cX4_at, 2, (some .int), 4, 0, 0)
def iX4_lay : qI := (yX4_lay, cX4_lay, 3, none, 4, 0, 0)
def iX4_isWithin : qI := (yX4_isWithin, cX4_isWithin, 3, (some .boolean), 4, 0, 0)
def iX4_isSign : qI := (yX4_isSign, cX4_isSign, 1, (some .boolean), 4, 1, 22)
def iX4_isForm : qI := (yX4_isForm, cX4_isForm, 1, (some .boolean), 4, 1, 22)
def iX4_isCell : qI := (yX4_isCell, cX4_isCell, 2, (some .boolean), 4, 1, 22)
def iX4_pointsOf : qI := (yX4_pointsOf, cX4_pointsOf, 4, (some .int), 4, 1, 21)
def iX4_textAt : qI := (yX4_textAt, cX4_textAt, 2, (some (.object "PrickedPages$Text")), 4, 0, 0)
def iX4_pageFault : qI := (yX4_pageFault, cX4_pageFault, 3, (some .int), 4, 2, 42)
def iX4_isLetter : qI := (yX4_isLetter, cX4_isLetter, 1, (some .boolean), 4, 1, 22)
def iX4_layTexts : qI := (yX4_layTexts, cX4_layTexts, 1, none, 4, 4, 91)
def iX4_layCells : qI := (yX4_layCells, cX4_layCells, 2, none, 4, 3, 64)
def iX4_printedAt : qI := (yX4_printedAt, cX4_printedAt, 3, (some .int), 4, 2, 42)
def iX4_readingOf : qI := (yX4_readingOf, cX4_readingOf, 3, (some .int), 4, 1, 21)
def iX4_swapColumns : qI := (yX4_swapColumns, cX4_swapColumns, 1, (some .int), 4, 0, 0)
def iX4_cellsOfLetters : qI := (yX4_cellsOfLetters, cX4_cellsOfLetters, 3, (some .int), 4, 2, 43)
def iX4_signOf : qI := (yX4_signOf, cX4_signOf, 3, (some .int), 4, 1, 23)
def iX4_wordsBothWays : qI := (yX4_wordsBothWays, cX4_wordsBothWays, 3, (some .int), 4, 4, 91)
def iX4_wordFromBehind : qI := (yX4_wordFromBehind, cX4_wordFromBehind, 3, (some .int), 4, 3, 69)
def iX4_isReadFromBehindAs : qI := (yX4_isReadFromBehindAs, cX4_isReadFromBehindAs, 5, (some .boolean), 4, 2, 45)
def iX4_hasCellsFor : qI := (yX4_hasCellsFor, cX4_hasCellsFor, 3, (some .boolean), 4, 1, 21)
def iX4_costAt : qI := (yX4_costAt, cX4_costAt, 7, (some .int), 4, 2, 45)
def iX4_cheapestAt : qI := (yX4_cheapestAt, cX4_cheapestAt, 7, (some .int), 4, 3, 71)
def iX4_bestLine : qI := (yX4_bestLine, cX4_bestLine, 6, (some .int), 4, 3, 71)
def iX4_bestBehindWord : qI := (yX4_bestBehindWord, cX4_bestBehindWord, 3, (some .int), 4, 1, 21)
def iX4_isOnePointLess : qI := (yX4_isOnePointLess, cX4_isOnePointLess, 2, (some .boolean), 4, 1, 20)
def iX4_isApartFromOthers : qI := (yX4_isApartFromOthers, cX4_isApartFromOthers, 5, (some .boolean), 4, 2, 41)
def iX4_freeSigns : qI := (yX4_freeSigns, cX4_freeSigns, 3, (some .int), 4, 2, 43)
def iX4_shortened : qI := (yX4_shortened, cX4_shortened, 6, (some .int), 4, 3, 69)
def iX4_mostSavingBut : qI := (yX4_mostSavingBut, cX4_mostSavingBut, 6, (some .int), 4, 2, 44)
def iX4_savedBy : qI := (yX4_savedBy, cX4_savedBy, 4, (some .int), 4, 1, 21)
def iX4_lieTogether : qI := (yX4_lieTogether, cX4_lieTogether, 6, (some .boolean), 4, 2, 45)
def iX4_firstClash : qI := (yX4_firstClash, cX4_firstClash, 5, (some .int), 4, 1, 21)
def iX4_skippedAt : qI := (yX4_skippedAt, cX4_skippedAt, 2, (some .int), 4, 3, 64)
def iX4_skippedBy : qI := (yX4_skippedBy, cX4_skippedBy, 6, (some .int), 4, 4, 85)
def iX4_wearDown : qI := (yX4_wearDown, cX4_wearDown, 5, none, 4, 2, 44)
def iX4_nextRaised : qI := (yX4_nextRaised, cX4_nextRaised, 4, (some .int), 4, 1, 21)
def iX4_withoutGreatestPoint : qI := (yX4_withoutGreatestPoint, cX4_withoutGreatestPoint, 2, (some .int), 4, 0, 0)
def iX4_sheetAt : qI := (yX4_sheetAt, cX4_sheetAt, 2, (some (.object "PrickedPages$Sheet")), 4, 0, 0)
def iX4_find : qI := (yX4_find, cX4_find, 2, (some .int), 4, 0, 0)
def iX4_itemFinding : qI := (yX4_itemFinding, cX4_itemFinding, 3, (some .int), 4, 1, 22)
def iX5_in : qI := (yX5_in, cX5_in, 3, (some .boolean), 5, 0, 0)
def iX5_ones : qI := (yX5_ones, cX5_ones, 3, (some .int), 5, 0, 0)
def iX5_type : qI := (yX5_type, cX5_type, 3, (some .int), 5, 1, 22)
def iX5_wipe : qI := (yX5_wipe, cX5_wipe, 3, (some .int), 5, 1, 22)
def iX5_letterAt : qI := (yX5_letterAt, cX5_letterAt, 4, (some .int), 5, 1, 22)
def iX5_readsPage : qI := (yX5_readsPage, cX5_readsPage, 3, (some .int), 5, 2, 45)
def iX5_readsWords : qI := (yX5_readsWords, cX5_readsWords, 4, (some .int), 5, 2, 45)
def iX5_faultOf : qI := (yX5_faultOf, cX5_faultOf, 4, (some .int), 5, 3, 68)
def iX5_reads : qI := (yX5_reads, cX5_reads, 2, none, 5, 4, 91)
def iX5_fault : qI := (yX5_fault, cX5_fault, 2, (some .int), 5, 4, 91)
def iX5_isCell : qI := (yX5_isCell, cX5_isCell, 2, (some .boolean), 5, 5, 112)
def iX5_isWord : qI := (yX5_isWord, cX5_isWord, 2, (some .boolean), 5, 5, 112)
def iX5_sign : qI := (yX5_sign, cX5_sign, 4, (some .int), 5, 1, 22)
def iX5_read : qI := (yX5_read, cX5_read, 3, (some .int), 5, 2, 42)
def iX5_slip : qI := (yX5_slip, cX5_slip, 4, (some .int), 5, 1, 22)
def iX5_undo : qI := (yX5_undo, cX5_undo, 1, (some .int), 5, 0, 0)
def iX5_set : qI := (yX5_set, cX5_set, 4, (some .int), 5, 1, 22)
def iX5_often : qI := (yX5_often, cX5_often, 4, (some .int), 5, 1, 22)
def iX5_signOf : qI := (yX5_signOf, cX5_signOf, 2, (some .int), 5, 0, 0)
def iX5_cellOf : qI := (yX5_cellOf, cX5_cellOf, 4, (some .int), 5, 1, 21)
def iX5_cell : qI := (yX5_cell, cX5_cell, 2, (some .int), 5, 6, 133)
def iX5_readAs : qI := (yX5_readAs, cX5_readAs, 3, (some .int), 5, 0, 0)
def iX5_letter : qI := (yX5_letter, cX5_letter, 2, (some .int), 5, 6, 133)
def iX5_judgedNow : qI := (yX5_judgedNow, cX5_judgedNow, 2, (some .int), 5, 5, 112)
def iX5_judged : qI := (yX5_judged, cX5_judged, 1, (some .int), 5, 6, 133)
def iX5_turned : qI := (yX5_turned, cX5_turned, 1, (some .int), 5, 0, 0)
def iX5_wrongOf : qI := (yX5_wrongOf, cX5_wrongOf, 2, (some .int), 5, 2, 44)
def iX5_wrong : qI := (yX5_wrong, cX5_wrong, 2, (some .int), 5, 6, 133)
def iX5_mirrored : qI := (yX5_mirrored, cX5_mirrored, 2, (some .int), 5, 1, 22)
def iX5_bothOf : qI := (yX5_bothOf, cX5_bothOf, 6, (some .int), 5, 1, 22)
def iX5_bothAll : qI := (yX5_bothAll, cX5_bothAll, 3, (some .int), 5, 5, 112)
def iX5_both : qI := (yX5_both, cX5_both, 2, (some .int), 5, 6, 134)
def iX5_fitsOf : qI := (yX5_fitsOf, cX5_fitsOf, 7, (some .int), 5, 2, 44)
def iX5_fits : qI := (yX5_fits, cX5_fits, 3, (some .int), 5, 6, 133)
def iX5_meantOf : qI := (yX5_meantOf, cX5_meantOf, 8, (some .int), 5, 5, 112)
def iX5_meant : qI := (yX5_meant, cX5_meant, 3, (some .int), 5, 6, 139)
def iX5_withinOf : qI := (yX5_withinOf, cX5_withinOf, 5, (some .int), 5, 5, 112)
def iX5_within : qI := (yX5_within, cX5_within, 3, (some .int), 5, 6, 136)
def iX5_lineOf : qI := (yX5_lineOf, cX5_lineOf, 6, (some .int), 5, 5, 112)
def iX5_line : qI := (yX5_line, cX5_line, 2, (some .int), 5, 6, 137)
def iX5_isLess : qI := (yX5_isLess, cX5_isLess, 2, (some .boolean), 5, 1, 22)
def iX5_slipperyNow : qI := (yX5_slipperyNow, cX5_slipperyNow, 4, (some .int), 5, 2, 43)
def iX5_slippery : qI := (yX5_slippery, cX5_slippery, 1, (some .int), 5, 3, 66)
def iX5_betterOf : qI := (yX5_betterOf, cX5_betterOf, 6, (some .int), 5, 2, 43)
def iX5_better : qI := (yX5_better, cX5_better, 2, (some .int), 5, 3, 68)
def iX5_freeSigns : qI := (yX5_freeSigns, cX5_freeSigns, 3, (some .int), 5, 1, 22)
def iX5_shortsOf : qI := (yX5_shortsOf, cX5_shortsOf, 11, (some .int), 5, 5, 112)
def iX5_shorts : qI := (yX5_shorts, cX5_shorts, 3, (some .int), 5, 6, 142)
def iX5_underOf : qI := (yX5_underOf, cX5_underOf, 8, (some .int), 5, 2, 44)
def iX5_under : qI := (yX5_under, cX5_under, 3, (some .int), 5, 6, 133)
def iX5_clashOf : qI := (yX5_clashOf, cX5_clashOf, 4, (some .int), 5, 5, 112)
def iX5_clash : qI := (yX5_clash, cX5_clash, 2, (some .int), 5, 6, 135)
def iX5_hand : qI := (yX5_hand, cX5_hand, 5, (some .int), 5, 1, 22)
def iX5_whoseNow : qI := (yX5_whoseNow, cX5_whoseNow, 9, (some .int), 5, 5, 112)
def iX5_whose : qI := (yX5_whose, cX5_whose, 1, (some .int), 5, 6, 140)
def iX5_wearOf : qI := (yX5_wearOf, cX5_wearOf, 7, (some .int), 5, 5, 112)
def iX5_wear : qI := (yX5_wear, cX5_wear, 3, (some .int), 5, 6, 138)
def iX5_meets : qI := (yX5_meets, cX5_meets, 2, (some .int), 5, 0, 0)
def iX5_isSheet : qI := (yX5_isSheet, cX5_isSheet, 1, (some .boolean), 5, 1, 22)
def iX5_sheet : qI := (yX5_sheet, cX5_sheet, 5, (some .int), 5, 2, 42)
def iX5_lose : qI := (yX5_lose, cX5_lose, 2, (some .int), 5, 2, 42)
def iX5_lacks : qI := (yX5_lacks, cX5_lacks, 4, (some .int), 5, 1, 22)
def iX5_keep : qI := (yX5_keep, cX5_keep, 4, none, 5, 0, 0)
def iX5_put : qI := (yX5_put, cX5_put, 6, (some .int), 5, 2, 45)
def iX5_get : qI := (yX5_get, cX5_get, 5, (some .int), 5, 2, 45)
def iX5_copy : qI := (yX5_copy, cX5_copy, 7, (some .int), 5, 2, 42)
def iX5_write : qI := (yX5_write, cX5_write, 3, (some .int), 5, 5, 112)
def iX5_sumOf : qI := (yX5_sumOf, cX5_sumOf, 4, (some .int), 5, 5, 112)
def iX5_count : qI := (yX5_count, cX5_count, 2, (some .int), 5, 6, 135)
def iX5_digest : qI := (yX5_digest, cX5_digest, 4, (some .long), 5, 7, 156)
def iJ6_bitCount_0f7a4 : qI := (yJ6_bitCount_0f7a4, cJ6_bitCount_0f7a4, 1, (some .int), 7, 0, 0)
def iJ7_fill_53178 : qI := (yJ7_fill_53178, cJ7_fill_53178, 4, none, 9, 0, 0)
def iL_law : qI := (x, cL_law, 4, (some .boolean), 6, 10, 366)
def iX5_init : qI := (yX5_init, cX5_init, 2, none, 5, 1, 20)
def q_calls (cn : Nat) : List (Nat × (Nat × qI × Nat)) := match cn with
  | 0 => [(19, (0, iJ7_fill_53178, 2)), (28, (1, iX4_lay, 3))]
  | 1 => [(25, (1, iX4_lay, 3)), (29, (1, iX4_at, 2))]
  | 2 => [(23, (2, iX2_hasRoom, 0)), (27, (1, iX4_lay, 3))]
  | 3 => [(34, (1, iX4_isWithin, 3)), (38, (2, iX3_firstFault, 0)), (45, (0, iJ7_fill_53178, 2)), (54, (1, iX4_at, 2)), (58, (1, iX4_lay, 3)), (62, (1, iX4_isLetter, 1))]
  | 4 => [(57, (0, iJ7_fill_53178, 2)), (79, (2, iX4_textAt, 1)), (83, (0, iX4_isWithin, 3)), (87, (3, iX2_hasRoom, 0)), (91, (3, iX2_append, 1)), (94, (2, iX4_layTexts, 0)), (100, (2, iX4_pageFault, 0)), (107, (0, iX4_isSign, 1)), (111, (0, iX4_at, 2)), (115, (0, iX4_lay, 3)), (119, (2, iX4_layCells, 0)), (122, (2, iX4_sheetAt, 1)), (126, (3, iX0_isLost, 0)), (129, (2, iX4_find, 1)), (142, (3, iX1_add, 3)), (146, (2, iX4_isCell, 1)), (149, (2, iX4_readingOf, 1)), (155, (0, iX4_swapColumns, 1)), (158, (3, iX3_has, 1)), (161, (2, iX4_wordsBothWays, 0)), (164, (2, iX4_wordFromBehind, 1)), (167, (2, iX4_costAt, 2)), (171, (2, iX4_cheapestAt, 1)), (175, (2, iX4_bestLine, 0)), (178, (0, iX4_isOnePointLess, 2)), (182, (0, iJ6_bitCount_0f7a4, 1)), (187, (2, iX4_isApartFromOthers, 2)), (190, (2, iX4_freeSigns, 0)), (193, (2, iX4_shortened, 1)), (196, (2, iX4_savedBy, 1)), (199, (2, iX4_lieTogether, 3)), (202, (2, iX4_firstClash, 1)), (206, (2, iX4_skippedAt, 1)), (209, (2, iX4_skippedBy, 1)), (212, (2, iX4_wearDown, 1)), (215, (0, iX4_pointsOf, 2)), (218, (0, iX4_isForm, 1)), (221, (3, iX0_renew, 2)), (225, (0, iX4_itemFinding, 3)), (229, (3, iX0_store, 2)), (239, (3, iX0_hasStretch, 2)), (256, (2, iX4_cellsOfLetters, 0)), (261, (2, iX4_count, 1)), (264, (0, iX4_mix, 2)), (268, (2, iX4_fault, 1)), (271, (2, iX4_judged, 0)), (274, (2, iX4_mixCells, 1)), (278, (2, iX4_mixWords, 1)), (281, (2, iX4_both, 1)), (284, (2, iX4_line, 1)), (287, (2, iX4_slippery, 0)), (290, (2, iX4_better, 1)), (293, (2, iX4_shorts, 2)), (296, (2, iX4_whose, 0)), (299, (2, iX4_wear, 2)), (302, (2, iX4_cell, 1)), (305, (2, iX4_letter, 1)), (308, (2, iX4_wrong, 1)), (311, (2, iX4_meant, 2)), (314, (2, iX4_within, 2)), (317, (2, iX4_fits, 2)), (320, (2, iX4_under, 2)), (328, (0, iX4_isLetter, 1)), (331, (3, iX3_split, 0)), (334, (2, iX4_printedAt, 1)), (337, (3, iX1_pointsAt, 2)), (340, (3, iX3_letterOf, 2)), (343, (2, iX4_isReadFromBehindAs, 2)), (346, (3, iX3_lettersOf, 1)), (349, (2, iX4_signOf, 2)), (352, (2, iX4_hasCellsFor, 2)), (355, (2, iX4_bestBehindWord, 1)), (358, (2, iX4_mostSavingBut, 1)), (361, (2, iX4_nextRaised, 1)), (364, (0, iX4_withoutGreatestPoint, 1))]
  | 5 => [(75, (0, iX5_in, 3)), (82, (2, iX5_letterAt, 2)), (89, (2, iX5_readsPage, 0)), (93, (2, iX5_readsWords, 0)), (96, (2, iX5_faultOf, 1)), (100, (2, iX5_reads, 0)), (103, (0, iX5_isSheet, 1)), (107, (2, iX5_meets, 1)), (113, (2, iX5_signOf, 1)), (116, (2, iX5_isCell, 1)), (119, (2, iX5_cellOf, 1)), (122, (2, iX5_readAs, 1)), (125, (2, iX5_judgedNow, 0)), (128, (0, iX5_turned, 1)), (131, (2, iX5_wrongOf, 1)), (134, (2, iX5_bothOf, 1)), (137, (2, iX5_bothAll, 0)), (140, (2, iX5_isWord, 1)), (143, (0, iX5_ones, 1)), (146, (2, iX5_fitsOf, 2)), (149, (2, iX5_meantOf, 2)), (152, (2, iX5_withinOf, 2)), (155, (2, iX5_lineOf, 1)), (158, (0, iX5_isLess, 2)), (162, (2, iX5_slipperyNow, 0)), (165, (2, iX5_betterOf, 1)), (168, (2, iX5_freeSigns, 0)), (171, (2, iX5_shortsOf, 2)), (174, (2, iX5_underOf, 2)), (177, (2, iX5_clashOf, 1)), (180, (2, iX5_whoseNow, 0)), (183, (2, iX5_wearOf, 2)), (189, (2, iX5_lacks, 3)), (193, (2, iX5_keep, 3)), (198, (2, iX5_sumOf, 1)), (205, (2, iX5_count, 1))]
  | 6 => [(13, (2, iX4_type, 2)), (17, (2, iX5_type, 2)), (18, (2, iX4_wipe, 1)), (22, (2, iX5_wipe, 1)), (23, (2, iX4_fault, 1)), (26, (2, iX5_fault, 1)), (27, (2, iX4_sign, 2)), (30, (2, iX5_sign, 2)), (31, (2, iX4_read, 1)), (34, (2, iX5_read, 1)), (35, (2, iX4_slip, 3)), (39, (2, iX5_slip, 3)), (40, (2, iX4_undo, 0)), (44, (2, iX5_undo, 0)), (45, (2, iX4_set, 2)), (48, (2, iX5_set, 2)), (49, (2, iX4_often, 2)), (52, (2, iX5_often, 2)), (53, (2, iX4_cell, 1)), (56, (2, iX5_cell, 1)), (57, (2, iX4_letter, 1)), (60, (2, iX5_letter, 1)), (61, (2, iX4_judged, 0)), (64, (2, iX5_judged, 0)), (65, (2, iX4_wrong, 1)), (68, (2, iX5_wrong, 1)), (69, (2, iX4_mirrored, 1)), (72, (2, iX5_mirrored, 1)), (73, (2, iX4_both, 1)), (76, (2, iX5_both, 1)), (77, (2, iX4_fits, 2)), (80, (2, iX5_fits, 2)), (81, (2, iX4_meant, 2)), (84, (2, iX5_meant, 2)), (85, (2, iX4_within, 2)), (88, (2, iX5_within, 2)), (89, (2, iX4_line, 1)), (92, (2, iX5_line, 1)), (93, (2, iX4_slippery, 0)), (96, (2, iX5_slippery, 0)), (97, (2, iX4_better, 1)), (100, (2, iX5_better, 1)), (101, (2, iX4_shorts, 2)), (104, (2, iX5_shorts, 2)), (105, (2, iX4_under, 2)), (108, (2, iX5_under, 2)), (109, (2, iX4_clash, 1)), (112, (2, iX5_clash, 1)), (113, (2, iX4_hand, 3)), (116, (2, iX5_hand, 3)), (117, (2, iX4_whose, 0)), (120, (2, iX5_whose, 0)), (121, (2, iX4_wear, 2)), (124, (2, iX5_wear, 2)), (125, (2, iX4_sheet, 3)), (128, (2, iX5_sheet, 3)), (129, (2, iX4_lose, 1)), (132, (2, iX5_lose, 1)), (133, (2, iX4_put, 4)), (137, (2, iX5_put, 4)), (138, (2, iX4_get, 3)), (141, (2, iX5_get, 3)), (142, (2, iX4_copy, 5)), (146, (2, iX5_copy, 5)), (147, (2, iX4_write, 1)), (150, (2, iX5_write, 1)), (151, (2, iX4_count, 1)), (154, (2, iX5_count, 1)), (155, (2, iX4_digest, 0)), (159, (2, iX5_digest, 0))]
  | _ => []
def q_call (cn idx : Nat) : Option (Nat × qI × Nat) := (q_calls cn).lookup idx
def q_flds (cn : Nat) : List (Nat × (Nat × Nat × Nat)) := match cn with
  | 0 => [(9, (0, 0, 0)), (15, (0, 0, 1)), (25, (0, 0, 2))]
  | 1 => [(9, (0, 1, 0)), (15, (0, 1, 1)), (18, (0, 1, 2)), (21, (0, 1, 3))]
  | 2 => [(13, (0, 2, 0)), (19, (0, 2, 1))]
  | 3 => [(14, (0, 3, 0)), (20, (0, 3, 1)), (24, (0, 3, 2)), (27, (0, 3, 4)), (31, (0, 3, 3)), (42, (1, 2, 1)), (51, (1, 2, 0))]
  | 4 => [(14, (0, 4, 0)), (21, (0, 4, 1)), (28, (0, 4, 2)), (41, (0, 4, 3)), (44, (0, 4, 4)), (47, (0, 4, 6)), (51, (0, 4, 7)), (54, (0, 4, 8)), (63, (0, 4, 9)), (68, (0, 4, 10)), (73, (0, 4, 12)), (76, (0, 4, 13)), (97, (1, 2, 1)), (104, (1, 3, 4)), (133, (1, 0, 2)), (136, (1, 0, 0)), (139, (1, 1, 3)), (152, (0, 4, 5)), (174, (1, 3, 3)), (233, (0, 4, 11)), (236, (1, 0, 1)), (253, (1, 3, 0)), (325, (1, 2, 0))]
  | 5 => [(7, (0, 5, 0)), (13, (0, 5, 1)), (16, (0, 5, 2)), (19, (0, 5, 4)), (22, (0, 5, 6)), (25, (0, 5, 7)), (28, (0, 5, 10)), (31, (0, 5, 12)), (34, (0, 5, 13)), (37, (0, 5, 14)), (40, (0, 5, 15)), (43, (0, 5, 16)), (46, (0, 5, 17)), (49, (0, 5, 18)), (52, (0, 5, 19)), (56, (0, 5, 20)), (59, (0, 5, 21)), (62, (0, 5, 22)), (65, (0, 5, 23)), (68, (0, 5, 8)), (72, (0, 5, 9)), (79, (0, 5, 3)), (86, (0, 5, 5)), (110, (0, 5, 11)), (186, (0, 5, 24))]
  | _ => []
def q_fl (cn idx : Nat) : Option (Nat × Nat × Nat) := (q_flds cn).lookup idx
def q_ldc (cn idx : Nat) : Option Int32 := match cn, idx with
  | 7, 265 => some (1431655765)
  | 7, 266 => some (858993459)
  | 7, 267 => some (252645135)
  | 4, 232 => some (-2147483648)
  | 5, 197 => some (-2147483648)
  | _, _ => none
def q_ldl (cn idx : Nat) : Option Int64 := match cn, idx with
  | 4, 259 => some (17)
  | 4, 323 => some (31)
  | 5, 201 => some (17)
  | 5, 203 => some (31)
  | _, _ => none
def q_wr (ci j : Nat) : Bool := match ci, j with
  | 0, 1 => true
  | 0, 2 => true
  | 1, 3 => true
  | 2, 1 => true
  | 3, 3 => true
  | 3, 4 => true
  | 4, 5 => true
  | 4, 6 => true
  | 4, 7 => true
  | 4, 11 => true
  | 5, 3 => true
  | 5, 5 => true
  | 5, 8 => true
  | 5, 9 => true
  | 5, 11 => true
  | 5, 24 => true
  | _, _ => false
def q_tb : qT := (q_call, q_fl, q_ldc, q_ldl, q_wr)
def q_nM : List (String × Nat × MethodName) := [(RX4, 11, yX2_init), (RX4, 20, yX3_init), (RX3, 11, yX2_init), (RX4, 27, yX1_init), (RX4, 72, yX0_init), (RX4, 87, yX2_hasRoom), (RX4, 91, yX2_append), (RX2, 27, yX4_lay), (RX4, 331, yX3_split), (RX3, 54, yX4_at), (RX3, 62, yX4_isLetter), (RX3, 58, yX4_lay), (RX4, 337, yX1_pointsAt), (RX1, 29, yX4_at), (RX4, 126, yX0_isLost), (RX4, 142, yX1_add), (RX1, 25, yX4_lay), (RX4, 158, yX3_has), (RX3, 34, yX4_isWithin), (RX4, 346, yX3_lettersOf), (RX4, 340, yX3_letterOf), (RX4, 221, yX0_renew), (RX4, 229, yX0_store), (RX0, 28, yX4_lay), (RX4, 239, yX0_hasStretch)]
def q_nF : List (String × Nat × String × String × String) := [(RX3, 51, "PrickedPages$Text", "bytes", "[I"), (RX4, 325, "PrickedPages$Text", "bytes", "[I"), (RX4, 97, "PrickedPages$Text", "length", "I"), (RX3, 42, "PrickedPages$Text", "length", "I"), (RX4, 253, "PrickedPages$WordList", "text", "LPrickedPages$Text;"), (RX4, 174, "PrickedPages$WordList", "many", "I"), (RX4, 104, "PrickedPages$WordList", "faultPlace", "I"), (RX4, 139, "PrickedPages$Slips", "many", "I"), (RX4, 136, "PrickedPages$Sheet", "items", "[I"), (RX4, 236, "PrickedPages$Sheet", "form", "I"), (RX4, 133, "PrickedPages$Sheet", "size", "I")]
def q_NW (U : State) : Prop := (∀ q ∈ q_nF, va_Nw (.fieldLinkNest q.1 q.2.1 q.2.2.1 q.2.2.2.1 q.2.2.2.2 "PrickedPages") U) ∧ (∀ q ∈ q_nM, va_Nw (.methodLinkNest q.1 q.2.1 q.2.2 "PrickedPages") U)
set_option maxRecDepth 100000 in
theorem q_nFw : ∀ q ∈ q_nF, Cond.fieldLinkNest q.1 q.2.1 q.2.2.1 q.2.2.2.1 q.2.2.2.2 "PrickedPages" ∈ lw_tbl := List.forall_mem_cons.mpr ⟨q_lt 29 rfl, List.forall_mem_cons.mpr ⟨q_lt 30 rfl, List.forall_mem_cons.mpr ⟨q_lt 32 rfl, List.forall_mem_cons.mpr ⟨q_lt 33 rfl, List.forall_mem_cons.mpr ⟨q_lt 49 rfl, List.forall_mem_cons.mpr ⟨q_lt 53 rfl, List.forall_mem_cons.mpr ⟨q_lt 55 rfl, List.forall_mem_cons.mpr ⟨q_lt 77 rfl, List.forall_mem_cons.mpr ⟨q_lt 107 rfl, List.forall_mem_cons.mpr ⟨q_lt 109 rfl, List.forall_mem_cons.mpr ⟨q_lt 111 rfl, fun _ h => absurd h List.not_mem_nil⟩⟩⟩⟩⟩⟩⟩⟩⟩⟩⟩
set_option maxRecDepth 100000 in
theorem q_nMw : ∀ q ∈ q_nM, Cond.methodLinkNest q.1 q.2.1 q.2.2 "PrickedPages" ∈ lw_tbl := List.forall_mem_cons.mpr ⟨q_lt 21 rfl, List.forall_mem_cons.mpr ⟨q_lt 42 rfl, List.forall_mem_cons.mpr ⟨q_lt 47 rfl, List.forall_mem_cons.mpr ⟨q_lt 69 rfl, List.forall_mem_cons.mpr ⟨q_lt 102 rfl, List.forall_mem_cons.mpr ⟨q_lt 173 rfl, List.forall_mem_cons.mpr ⟨q_lt 177 rfl, List.forall_mem_cons.mpr ⟨q_lt 182 rfl, List.forall_mem_cons.mpr ⟨q_lt 189 rfl, List.forall_mem_cons.mpr ⟨q_lt 197 rfl, List.forall_mem_cons.mpr ⟨q_lt 200 rfl, List.forall_mem_cons.mpr ⟨q_lt 204 rfl, List.forall_mem_cons.mpr ⟨q_lt 219 rfl, List.forall_mem_cons.mpr ⟨q_lt 223 rfl, List.forall_mem_cons.mpr ⟨q_lt 248 rfl, List.forall_mem_cons.mpr ⟨q_lt 260 rfl, List.forall_mem_cons.mpr ⟨q_lt 264 rfl, List.forall_mem_cons.mpr ⟨q_lt 312 rfl, List.forall_mem_cons.mpr ⟨q_lt 316 rfl, List.forall_mem_cons.mpr ⟨q_lt 329 rfl, List.forall_mem_cons.mpr ⟨q_lt 337 rfl, List.forall_mem_cons.mpr ⟨q_lt 478 rfl, List.forall_mem_cons.mpr ⟨q_lt 494 rfl, List.forall_mem_cons.mpr ⟨q_lt 498 rfl, List.forall_mem_cons.mpr ⟨q_lt 508 rfl, fun _ h => absurd h List.not_mem_nil⟩⟩⟩⟩⟩⟩⟩⟩⟩⟩⟩⟩⟩⟩⟩⟩⟩⟩⟩⟩⟩⟩⟩⟩⟩
theorem q_NW_of {a : Array Value} {s : State} (h : ∀ w ∈ lw_tbl, w.before a s = true) : q_NW s := ⟨fun q hq => va_Nw.of rfl (h _ (q_nFw q hq)), fun q hq => va_Nw.of rfl (h _ (q_nMw q hq))⟩
theorem q_NW_warm {s U : State} (hW : s.WarmedH U.vm) (h : q_NW s) : q_NW U := ⟨fun q hq => va_Nw.warmF hW (h.1 q hq), fun q hq => va_Nw.warmM hW (h.2 q hq)⟩
theorem q_NW_same {s U : State} (e : s.vm = U.vm) (h : q_NW s) : q_NW U := ⟨fun q hq => va_Nw.same rfl e (h.1 q hq), fun q hq => va_Nw.same rfl e (h.2 q hq)⟩
def q_okm (I : qI) (n : Nat) : Prop := Cond.code (mY I) (mB I) (mL I) (mR I) ∈ q_tbl ∧ Cond.initialized (mY I).cls ∈ q_tbl ∧ ((mY I).cls ≠ "java/lang/invoke/MethodHandle" ∧ (mY I).cls ≠ "java/lang/invoke/VarHandle" ∧ (parseMethodDescriptor (mY I).desc).map (fun d => d.parameters.length) = some n) ∧ plainName (mY I).cls = true ∧ (mY I).cls = q_nm (mC I)
def q_oki (I : qI) : Prop := Cond.instanceMethod (mY I) ∈ q_tbl ∧ Cond.selects (mY I).cls (mY I) (mY I) ∈ q_tbl ∧ ∃ T N, q_cl[mC I]? = some ((mY I).cls, T, N)
set_option maxRecDepth 100000 in
theorem m_X0_isLost : q_okm iX0_isLost 0 := ⟨q_t 251 rfl rfl, q_t 7 rfl rfl, ⟨by decide +kernel, by decide +kernel, by decide +kernel⟩, by decide +kernel, rfl⟩
set_option maxRecDepth 100000 in
theorem k_X0_isLost : q_oki iX0_isLost := ⟨q_t 250 rfl rfl, q_s 11 rfl rfl, ⟨_, _, rfl⟩⟩
set_option maxRecDepth 100000 in
theorem m_X0_renew : q_okm iX0_renew 2 := ⟨q_t 481 rfl rfl, q_t 7 rfl rfl, ⟨by decide +kernel, by decide +kernel, by decide +kernel⟩, by decide +kernel, rfl⟩
set_option maxRecDepth 100000 in
theorem k_X0_renew : q_oki iX0_renew := ⟨q_t 480 rfl rfl, q_s 39 rfl rfl, ⟨_, _, rfl⟩⟩
set_option maxRecDepth 100000 in
theorem m_X0_hasStretch : q_okm iX0_hasStretch 2 := ⟨q_t 511 rfl rfl, q_t 7 rfl rfl, ⟨by decide +kernel, by decide +kernel, by decide +kernel⟩, by decide +kernel, rfl⟩
set_option maxRecDepth 100000 in
theorem k_X0_hasStretch : q_oki iX0_hasStretch := ⟨q_t 510 rfl rfl, q_s 41 rfl rfl, ⟨_, _, rfl⟩⟩
set_option maxRecDepth 100000 in
theorem m_X0_store : q_okm iX0_store 2 := ⟨q_t 497 rfl rfl, q_t 7 rfl rfl, ⟨by decide +kernel, by decide +kernel, by decide +kernel⟩, by decide +kernel, rfl⟩
set_option maxRecDepth 100000 in
theorem k_X0_store : q_oki iX0_store := ⟨q_t 496 rfl rfl, q_s 40 rfl rfl, ⟨_, _, rfl⟩⟩
set_option maxRecDepth 100000 in
theorem m_X1_add : q_okm iX1_add 3 := ⟨q_t 263 rfl rfl, q_t 5 rfl rfl, ⟨by decide +kernel, by decide +kernel, by decide +kernel⟩, by decide +kernel, rfl⟩
set_option maxRecDepth 100000 in
theorem k_X1_add : q_oki iX1_add := ⟨q_t 262 rfl rfl, q_s 13 rfl rfl, ⟨_, _, rfl⟩⟩
set_option maxRecDepth 100000 in
theorem m_X1_pointsAt : q_okm iX1_pointsAt 2 := ⟨q_t 222 rfl rfl, q_t 5 rfl rfl, ⟨by decide +kernel, by decide +kernel, by decide +kernel⟩, by decide +kernel, rfl⟩
set_option maxRecDepth 100000 in
theorem k_X1_pointsAt : q_oki iX1_pointsAt := ⟨q_t 221 rfl rfl, q_s 9 rfl rfl, ⟨_, _, rfl⟩⟩
set_option maxRecDepth 100000 in
theorem m_X2_hasRoom : q_okm iX2_hasRoom 0 := ⟨q_t 176 rfl rfl, q_t 2 rfl rfl, ⟨by decide +kernel, by decide +kernel, by decide +kernel⟩, by decide +kernel, rfl⟩
set_option maxRecDepth 100000 in
theorem k_X2_hasRoom : q_oki iX2_hasRoom := ⟨q_t 175 rfl rfl, q_s 1 rfl rfl, ⟨_, _, rfl⟩⟩
set_option maxRecDepth 100000 in
theorem m_X2_append : q_okm iX2_append 1 := ⟨q_t 180 rfl rfl, q_t 2 rfl rfl, ⟨by decide +kernel, by decide +kernel, by decide +kernel⟩, by decide +kernel, rfl⟩
set_option maxRecDepth 100000 in
theorem k_X2_append : q_oki iX2_append := ⟨q_t 179 rfl rfl, q_s 2 rfl rfl, ⟨_, _, rfl⟩⟩
set_option maxRecDepth 100000 in
theorem m_X3_has : q_okm iX3_has 1 := ⟨q_t 315 rfl rfl, q_t 4 rfl rfl, ⟨by decide +kernel, by decide +kernel, by decide +kernel⟩, by decide +kernel, rfl⟩
set_option maxRecDepth 100000 in
theorem k_X3_has : q_oki iX3_has := ⟨q_t 314 rfl rfl, q_s 16 rfl rfl, ⟨_, _, rfl⟩⟩
set_option maxRecDepth 100000 in
theorem m_X3_lettersOf : q_okm iX3_lettersOf 1 := ⟨q_t 332 rfl rfl, q_t 4 rfl rfl, ⟨by decide +kernel, by decide +kernel, by decide +kernel⟩, by decide +kernel, rfl⟩
set_option maxRecDepth 100000 in
theorem k_X3_lettersOf : q_oki iX3_lettersOf := ⟨q_t 331 rfl rfl, q_s 20 rfl rfl, ⟨_, _, rfl⟩⟩
set_option maxRecDepth 100000 in
theorem m_X3_letterOf : q_okm iX3_letterOf 2 := ⟨q_t 340 rfl rfl, q_t 4 rfl rfl, ⟨by decide +kernel, by decide +kernel, by decide +kernel⟩, by decide +kernel, rfl⟩
set_option maxRecDepth 100000 in
theorem k_X3_letterOf : q_oki iX3_letterOf := ⟨q_t 339 rfl rfl, q_s 22 rfl rfl, ⟨_, _, rfl⟩⟩
set_option maxRecDepth 100000 in
theorem m_X3_split : q_okm iX3_split 0 := ⟨q_t 192 rfl rfl, q_t 4 rfl rfl, ⟨by decide +kernel, by decide +kernel, by decide +kernel⟩, by decide +kernel, rfl⟩
set_option maxRecDepth 100000 in
theorem k_X3_split : q_oki iX3_split := ⟨q_t 191 rfl rfl, q_s 4 rfl rfl, ⟨_, _, rfl⟩⟩
set_option maxRecDepth 100000 in
theorem m_X3_firstFault : q_okm iX3_firstFault 0 := ⟨q_t 196 rfl rfl, q_t 4 rfl rfl, ⟨by decide +kernel, by decide +kernel, by decide +kernel⟩, by decide +kernel, rfl⟩
set_option maxRecDepth 100000 in
theorem k_X3_firstFault : q_oki iX3_firstFault := ⟨q_t 195 rfl rfl, q_s 5 rfl rfl, ⟨_, _, rfl⟩⟩
set_option maxRecDepth 100000 in
theorem m_X4_type : q_okm iX4_type 2 := ⟨q_t 165 rfl rfl, q_t 1 rfl rfl, ⟨by decide +kernel, by decide +kernel, by decide +kernel⟩, by decide +kernel, rfl⟩
set_option maxRecDepth 100000 in
theorem k_X4_type : q_oki iX4_type := ⟨q_t 163 rfl rfl, q_t 164 rfl rfl, ⟨_, _, rfl⟩⟩
set_option maxRecDepth 100000 in
theorem m_X4_wipe : q_okm iX4_wipe 1 := ⟨q_t 228 rfl rfl, q_t 1 rfl rfl, ⟨by decide +kernel, by decide +kernel, by decide +kernel⟩, by decide +kernel, rfl⟩
set_option maxRecDepth 100000 in
theorem k_X4_wipe : q_oki iX4_wipe := ⟨q_t 226 rfl rfl, q_t 227 rfl rfl, ⟨_, _, rfl⟩⟩
set_option maxRecDepth 100000 in
theorem m_X4_fault : q_okm iX4_fault 1 := ⟨q_t 232 rfl rfl, q_t 1 rfl rfl, ⟨by decide +kernel, by decide +kernel, by decide +kernel⟩, by decide +kernel, rfl⟩
set_option maxRecDepth 100000 in
theorem k_X4_fault : q_oki iX4_fault := ⟨q_t 230 rfl rfl, q_t 231 rfl rfl, ⟨_, _, rfl⟩⟩
set_option maxRecDepth 100000 in
theorem m_X4_sign : q_okm iX4_sign 2 := ⟨q_t 236 rfl rfl, q_t 1 rfl rfl, ⟨by decide +kernel, by decide +kernel, by decide +kernel⟩, by decide +kernel, rfl⟩
set_option maxRecDepth 100000 in
theorem k_X4_sign : q_oki iX4_sign := ⟨q_t 234 rfl rfl, q_t 235 rfl rfl, ⟨_, _, rfl⟩⟩
set_option maxRecDepth 100000 in
theorem m_X4_read : q_okm iX4_read 1 := ⟨q_t 243 rfl rfl, q_t 1 rfl rfl, ⟨by decide +kernel, by decide +kernel, by decide +kernel⟩, by decide +kernel, rfl⟩
set_option maxRecDepth 100000 in
theorem k_X4_read : q_oki iX4_read := ⟨q_t 241 rfl rfl, q_t 242 rfl rfl, ⟨_, _, rfl⟩⟩
set_option maxRecDepth 100000 in
theorem m_X4_slip : q_okm iX4_slip 3 := ⟨q_t 259 rfl rfl, q_t 1 rfl rfl, ⟨by decide +kernel, by decide +kernel, by decide +kernel⟩, by decide +kernel, rfl⟩
set_option maxRecDepth 100000 in
theorem k_X4_slip : q_oki iX4_slip := ⟨q_t 257 rfl rfl, q_t 258 rfl rfl, ⟨_, _, rfl⟩⟩
set_option maxRecDepth 100000 in
theorem m_X4_undo : q_okm iX4_undo 0 := ⟨q_t 268 rfl rfl, q_t 1 rfl rfl, ⟨by decide +kernel, by decide +kernel, by decide +kernel⟩, by decide +kernel, rfl⟩
set_option maxRecDepth 100000 in
theorem k_X4_undo : q_oki iX4_undo := ⟨q_t 266 rfl rfl, q_t 267 rfl rfl, ⟨_, _, rfl⟩⟩
set_option maxRecDepth 100000 in
theorem m_X4_set : q_okm iX4_set 2 := ⟨q_t 272 rfl rfl, q_t 1 rfl rfl, ⟨by decide +kernel, by decide +kernel, by decide +kernel⟩, by decide +kernel, rfl⟩
set_option maxRecDepth 100000 in
theorem k_X4_set : q_oki iX4_set := ⟨q_t 270 rfl rfl, q_t 271 rfl rfl, ⟨_, _, rfl⟩⟩
set_option maxRecDepth 100000 in
theorem m_X4_often : q_okm iX4_often 2 := ⟨q_t 276 rfl rfl, q_t 1 rfl rfl, ⟨by decide +kernel, by decide +kernel, by decide +kernel⟩, by decide +kernel, rfl⟩
set_option maxRecDepth 100000 in
theorem k_X4_often : q_oki iX4_often := ⟨q_t 274 rfl rfl, q_t 275 rfl rfl, ⟨_, _, rfl⟩⟩
set_option maxRecDepth 100000 in
theorem m_X4_cell : q_okm iX4_cell 1 := ⟨q_t 280 rfl rfl, q_t 1 rfl rfl, ⟨by decide +kernel, by decide +kernel, by decide +kernel⟩, by decide +kernel, rfl⟩
set_option maxRecDepth 100000 in
theorem k_X4_cell : q_oki iX4_cell := ⟨q_t 278 rfl rfl, q_t 279 rfl rfl, ⟨_, _, rfl⟩⟩
set_option maxRecDepth 100000 in
theorem m_X4_letter : q_okm iX4_letter 1 := ⟨q_t 288 rfl rfl, q_t 1 rfl rfl, ⟨by decide +kernel, by decide +kernel, by decide +kernel⟩, by decide +kernel, rfl⟩
set_option maxRecDepth 100000 in
theorem k_X4_letter : q_oki iX4_letter := ⟨q_t 286 rfl rfl, q_t 287 rfl rfl, ⟨_, _, rfl⟩⟩
set_option maxRecDepth 100000 in
theorem m_X4_judged : q_okm iX4_judged 0 := ⟨q_t 296 rfl rfl, q_t 1 rfl rfl, ⟨by decide +kernel, by decide +kernel, by decide +kernel⟩, by decide +kernel, rfl⟩
set_option maxRecDepth 100000 in
theorem k_X4_judged : q_oki iX4_judged := ⟨q_t 294 rfl rfl, q_t 295 rfl rfl, ⟨_, _, rfl⟩⟩
set_option maxRecDepth 100000 in
theorem m_X4_wrong : q_okm iX4_wrong 1 := ⟨q_t 300 rfl rfl, q_t 1 rfl rfl, ⟨by decide +kernel, by decide +kernel, by decide +kernel⟩, by decide +kernel, rfl⟩
set_option maxRecDepth 100000 in
theorem k_X4_wrong : q_oki iX4_wrong := ⟨q_t 298 rfl rfl, q_t 299 rfl rfl, ⟨_, _, rfl⟩⟩
set_option maxRecDepth 100000 in
theorem m_X4_mirrored : q_okm iX4_mirrored 1 := ⟨q_t 307 rfl rfl, q_t 1 rfl rfl, ⟨by decide +kernel, by decide +kernel, by decide +kernel⟩, by decide +kernel, rfl⟩
set_option maxRecDepth 100000 in
theorem k_X4_mirrored : q_oki iX4_mirrored := ⟨q_t 305 rfl rfl, q_t 306 rfl rfl, ⟨_, _, rfl⟩⟩
set_option maxRecDepth 100000 in
theorem m_X4_both : q_okm iX4_both 1 := ⟨q_t 311 rfl rfl, q_t 1 rfl rfl, ⟨by decide +kernel, by decide +kernel, by decide +kernel⟩, by decide +kernel, rfl⟩
set_option maxRecDepth 100000 in
theorem k_X4_both : q_oki iX4_both := ⟨q_t 309 rfl rfl, q_t 310 rfl rfl, ⟨_, _, rfl⟩⟩
set_option maxRecDepth 100000 in
theorem m_X4_fits : q_okm iX4_fits 2 := ⟨q_t 344 rfl rfl, q_t 1 rfl rfl, ⟨by decide +kernel, by decide +kernel, by decide +kernel⟩, by decide +kernel, rfl⟩
set_option maxRecDepth 100000 in
theorem k_X4_fits : q_oki iX4_fits := ⟨q_t 342 rfl rfl, q_t 343 rfl rfl, ⟨_, _, rfl⟩⟩
set_option maxRecDepth 100000 in
theorem m_X4_meant : q_okm iX4_meant 2 := ⟨q_t 362 rfl rfl, q_t 1 rfl rfl, ⟨by decide +kernel, by decide +kernel, by decide +kernel⟩, by decide +kernel, rfl⟩
set_option maxRecDepth 100000 in
theorem k_X4_meant : q_oki iX4_meant := ⟨q_t 360 rfl rfl, q_t 361 rfl rfl, ⟨_, _, rfl⟩⟩
set_option maxRecDepth 100000 in
theorem m_X4_within : q_okm iX4_within 2 := ⟨q_t 370 rfl rfl, q_t 1 rfl rfl, ⟨by decide +kernel, by decide +kernel, by decide +kernel⟩, by decide +kernel, rfl⟩
set_option maxRecDepth 100000 in
theorem k_X4_within : q_oki iX4_within := ⟨q_t 368 rfl rfl, q_t 369 rfl rfl, ⟨_, _, rfl⟩⟩
set_option maxRecDepth 100000 in
theorem m_X4_line : q_okm iX4_line 1 := ⟨q_t 374 rfl rfl, q_t 1 rfl rfl, ⟨by decide +kernel, by decide +kernel, by decide +kernel⟩, by decide +kernel, rfl⟩
set_option maxRecDepth 100000 in
theorem k_X4_line : q_oki iX4_line := ⟨q_t 372 rfl rfl, q_t 373 rfl rfl, ⟨_, _, rfl⟩⟩
set_option maxRecDepth 100000 in
theorem m_X4_slippery : q_okm iX4_slippery 0 := ⟨q_t 389 rfl rfl, q_t 1 rfl rfl, ⟨by decide +kernel, by decide +kernel, by decide +kernel⟩, by decide +kernel, rfl⟩
set_option maxRecDepth 100000 in
theorem k_X4_slippery : q_oki iX4_slippery := ⟨q_t 387 rfl rfl, q_t 388 rfl rfl, ⟨_, _, rfl⟩⟩
set_option maxRecDepth 100000 in
theorem m_X4_better : q_okm iX4_better 1 := ⟨q_t 396 rfl rfl, q_t 1 rfl rfl, ⟨by decide +kernel, by decide +kernel, by decide +kernel⟩, by decide +kernel, rfl⟩
set_option maxRecDepth 100000 in
theorem k_X4_better : q_oki iX4_better := ⟨q_t 394 rfl rfl, q_t 395 rfl rfl, ⟨_, _, rfl⟩⟩
set_option maxRecDepth 100000 in
theorem m_X4_shorts : q_okm iX4_shorts 2 := ⟨q_t 404 rfl rfl, q_t 1 rfl rfl, ⟨by decide +kernel, by decide +kernel, by decide +kernel⟩, by decide +kernel, rfl⟩
set_option maxRecDepth 100000 in
theorem k_X4_shorts : q_oki iX4_shorts := ⟨q_t 402 rfl rfl, q_t 403 rfl rfl, ⟨_, _, rfl⟩⟩
set_option maxRecDepth 100000 in
theorem m_X4_under : q_okm iX4_under 2 := ⟨q_t 424 rfl rfl, q_t 1 rfl rfl, ⟨by decide +kernel, by decide +kernel, by decide +kernel⟩, by decide +kernel, rfl⟩
set_option maxRecDepth 100000 in
theorem k_X4_under : q_oki iX4_under := ⟨q_t 422 rfl rfl, q_t 423 rfl rfl, ⟨_, _, rfl⟩⟩
set_option maxRecDepth 100000 in
theorem m_X4_clash : q_okm iX4_clash 1 := ⟨q_t 432 rfl rfl, q_t 1 rfl rfl, ⟨by decide +kernel, by decide +kernel, by decide +kernel⟩, by decide +kernel, rfl⟩
set_option maxRecDepth 100000 in
theorem k_X4_clash : q_oki iX4_clash := ⟨q_t 430 rfl rfl, q_t 431 rfl rfl, ⟨_, _, rfl⟩⟩
set_option maxRecDepth 100000 in
theorem m_X4_hand : q_okm iX4_hand 3 := ⟨q_t 440 rfl rfl, q_t 1 rfl rfl, ⟨by decide +kernel, by decide +kernel, by decide +kernel⟩, by decide +kernel, rfl⟩
set_option maxRecDepth 100000 in
theorem k_X4_hand : q_oki iX4_hand := ⟨q_t 438 rfl rfl, q_t 439 rfl rfl, ⟨_, _, rfl⟩⟩
set_option maxRecDepth 100000 in
theorem m_X4_whose : q_okm iX4_whose 0 := ⟨q_t 444 rfl rfl, q_t 1 rfl rfl, ⟨by decide +kernel, by decide +kernel, by decide +kernel⟩, by decide +kernel, rfl⟩
set_option maxRecDepth 100000 in
theorem k_X4_whose : q_oki iX4_whose := ⟨q_t 442 rfl rfl, q_t 443 rfl rfl, ⟨_, _, rfl⟩⟩
set_option maxRecDepth 100000 in
theorem m_X4_wear : q_okm iX4_wear 2 := ⟨q_t 456 rfl rfl, q_t 1 rfl rfl, ⟨by decide +kernel, by decide +kernel, by decide +kernel⟩, by decide +kernel, rfl⟩
set_option maxRecDepth 100000 in
theorem k_X4_wear : q_oki iX4_wear := ⟨q_t 454 rfl rfl, q_t 455 rfl rfl, ⟨_, _, rfl⟩⟩
set_option maxRecDepth 100000 in
theorem m_X4_sheet : q_okm iX4_sheet 3 := ⟨q_t 474 rfl rfl, q_t 1 rfl rfl, ⟨by decide +kernel, by decide +kernel, by decide +kernel⟩, by decide +kernel, rfl⟩
set_option maxRecDepth 100000 in
theorem k_X4_sheet : q_oki iX4_sheet := ⟨q_t 472 rfl rfl, q_t 473 rfl rfl, ⟨_, _, rfl⟩⟩
set_option maxRecDepth 100000 in
theorem m_X4_lose : q_okm iX4_lose 1 := ⟨q_t 486 rfl rfl, q_t 1 rfl rfl, ⟨by decide +kernel, by decide +kernel, by decide +kernel⟩, by decide +kernel, rfl⟩
set_option maxRecDepth 100000 in
theorem k_X4_lose : q_oki iX4_lose := ⟨q_t 484 rfl rfl, q_t 485 rfl rfl, ⟨_, _, rfl⟩⟩
set_option maxRecDepth 100000 in
theorem m_X4_put : q_okm iX4_put 4 := ⟨q_t 490 rfl rfl, q_t 1 rfl rfl, ⟨by decide +kernel, by decide +kernel, by decide +kernel⟩, by decide +kernel, rfl⟩
set_option maxRecDepth 100000 in
theorem k_X4_put : q_oki iX4_put := ⟨q_t 488 rfl rfl, q_t 489 rfl rfl, ⟨_, _, rfl⟩⟩
set_option maxRecDepth 100000 in
theorem m_X4_get : q_okm iX4_get 3 := ⟨q_t 502 rfl rfl, q_t 1 rfl rfl, ⟨by decide +kernel, by decide +kernel, by decide +kernel⟩, by decide +kernel, rfl⟩
set_option maxRecDepth 100000 in
theorem k_X4_get : q_oki iX4_get := ⟨q_t 500 rfl rfl, q_t 501 rfl rfl, ⟨_, _, rfl⟩⟩
set_option maxRecDepth 100000 in
theorem m_X4_copy : q_okm iX4_copy 5 := ⟨q_t 507 rfl rfl, q_t 1 rfl rfl, ⟨by decide +kernel, by decide +kernel, by decide +kernel⟩, by decide +kernel, rfl⟩
set_option maxRecDepth 100000 in
theorem k_X4_copy : q_oki iX4_copy := ⟨q_t 505 rfl rfl, q_t 506 rfl rfl, ⟨_, _, rfl⟩⟩
set_option maxRecDepth 100000 in
theorem m_X4_write : q_okm iX4_write 1 := ⟨q_t 518 rfl rfl, q_t 1 rfl rfl, ⟨by decide +kernel, by decide +kernel, by decide +kernel⟩, by decide +kernel, rfl⟩
set_option maxRecDepth 100000 in
theorem k_X4_write : q_oki iX4_write := ⟨q_t 516 rfl rfl, q_t 517 rfl rfl, ⟨_, _, rfl⟩⟩
set_option maxRecDepth 100000 in
theorem m_X4_count : q_okm iX4_count 1 := ⟨q_t 522 rfl rfl, q_t 1 rfl rfl, ⟨by decide +kernel, by decide +kernel, by decide +kernel⟩, by decide +kernel, rfl⟩
set_option maxRecDepth 100000 in
theorem k_X4_count : q_oki iX4_count := ⟨q_t 520 rfl rfl, q_t 521 rfl rfl, ⟨_, _, rfl⟩⟩
set_option maxRecDepth 100000 in
theorem m_X4_digest : q_okm iX4_digest 0 := ⟨q_t 530 rfl rfl, q_t 1 rfl rfl, ⟨by decide +kernel, by decide +kernel, by decide +kernel⟩, by decide +kernel, rfl⟩
set_option maxRecDepth 100000 in
theorem k_X4_digest : q_oki iX4_digest := ⟨q_t 528 rfl rfl, q_t 529 rfl rfl, ⟨_, _, rfl⟩⟩
set_option maxRecDepth 100000 in
theorem m_X4_mixCells : q_okm iX4_mixCells 1 := ⟨q_t 542 rfl rfl, q_t 1 rfl rfl, ⟨by decide +kernel, by decide +kernel, by decide +kernel⟩, by decide +kernel, rfl⟩
set_option maxRecDepth 100000 in
theorem k_X4_mixCells : q_oki iX4_mixCells := ⟨q_t 541 rfl rfl, q_s 43 rfl rfl, ⟨_, _, rfl⟩⟩
set_option maxRecDepth 100000 in
theorem m_X4_mixWords : q_okm iX4_mixWords 1 := ⟨q_t 551 rfl rfl, q_t 1 rfl rfl, ⟨by decide +kernel, by decide +kernel, by decide +kernel⟩, by decide +kernel, rfl⟩
set_option maxRecDepth 100000 in
theorem k_X4_mixWords : q_oki iX4_mixWords := ⟨q_t 550 rfl rfl, q_s 44 rfl rfl, ⟨_, _, rfl⟩⟩
set_option maxRecDepth 100000 in
theorem m_X4_mix : q_okm iX4_mix 2 := ⟨q_t 535 rfl rfl, q_t 1 rfl rfl, ⟨by decide +kernel, by decide +kernel, by decide +kernel⟩, by decide +kernel, rfl⟩
set_option maxRecDepth 100000 in
theorem k_X4_mix : Cond.static (mY iX4_mix) ∈ q_tbl := q_t 534 rfl rfl
set_option maxRecDepth 100000 in
theorem m_X4_at : q_okm iX4_at 2 := ⟨q_t 199 rfl rfl, q_t 1 rfl rfl, ⟨by decide +kernel, by decide +kernel, by decide +kernel⟩, by decide +kernel, rfl⟩
set_option maxRecDepth 100000 in
theorem k_X4_at : Cond.static (mY iX4_at) ∈ q_tbl := q_t 198 rfl rfl
set_option maxRecDepth 100000 in
theorem m_X4_lay : q_okm iX4_lay 3 := ⟨q_t 184 rfl rfl, q_t 1 rfl rfl, ⟨by decide +kernel, by decide +kernel, by decide +kernel⟩, by decide +kernel, rfl⟩
set_option maxRecDepth 100000 in
theorem k_X4_lay : Cond.static (mY iX4_lay) ∈ q_tbl := q_t 183 rfl rfl
set_option maxRecDepth 100000 in
theorem m_X4_isWithin : q_okm iX4_isWithin 3 := ⟨q_t 172 rfl rfl, q_t 1 rfl rfl, ⟨by decide +kernel, by decide +kernel, by decide +kernel⟩, by decide +kernel, rfl⟩
set_option maxRecDepth 100000 in
theorem k_X4_isWithin : Cond.static (mY iX4_isWithin) ∈ q_tbl := q_t 171 rfl rfl
set_option maxRecDepth 100000 in
theorem m_X4_isSign : q_okm iX4_isSign 1 := ⟨q_t 239 rfl rfl, q_t 1 rfl rfl, ⟨by decide +kernel, by decide +kernel, by decide +kernel⟩, by decide +kernel, rfl⟩
set_option maxRecDepth 100000 in
theorem k_X4_isSign : Cond.static (mY iX4_isSign) ∈ q_tbl := q_t 238 rfl rfl
set_option maxRecDepth 100000 in
theorem m_X4_isForm : q_okm iX4_isForm 1 := ⟨q_t 477 rfl rfl, q_t 1 rfl rfl, ⟨by decide +kernel, by decide +kernel, by decide +kernel⟩, by decide +kernel, rfl⟩
set_option maxRecDepth 100000 in
theorem k_X4_isForm : Cond.static (mY iX4_isForm) ∈ q_tbl := q_t 476 rfl rfl
set_option maxRecDepth 100000 in
theorem m_X4_isCell : q_okm iX4_isCell 1 := ⟨q_t 284 rfl rfl, q_t 1 rfl rfl, ⟨by decide +kernel, by decide +kernel, by decide +kernel⟩, by decide +kernel, rfl⟩
set_option maxRecDepth 100000 in
theorem k_X4_isCell : q_oki iX4_isCell := ⟨q_t 283 rfl rfl, q_s 14 rfl rfl, ⟨_, _, rfl⟩⟩
set_option maxRecDepth 100000 in
theorem m_X4_pointsOf : q_okm iX4_pointsOf 2 := ⟨q_t 470 rfl rfl, q_t 1 rfl rfl, ⟨by decide +kernel, by decide +kernel, by decide +kernel⟩, by decide +kernel, rfl⟩
set_option maxRecDepth 100000 in
theorem k_X4_pointsOf : Cond.static (mY iX4_pointsOf) ∈ q_tbl := q_t 469 rfl rfl
set_option maxRecDepth 100000 in
theorem m_X4_textAt : q_okm iX4_textAt 1 := ⟨q_t 169 rfl rfl, q_t 1 rfl rfl, ⟨by decide +kernel, by decide +kernel, by decide +kernel⟩, by decide +kernel, rfl⟩
set_option maxRecDepth 100000 in
theorem k_X4_textAt : q_oki iX4_textAt := ⟨q_t 168 rfl rfl, q_s 0 rfl rfl, ⟨_, _, rfl⟩⟩
set_option maxRecDepth 100000 in
theorem m_X4_pageFault : q_okm iX4_pageFault 0 := ⟨q_t 212 rfl rfl, q_t 1 rfl rfl, ⟨by decide +kernel, by decide +kernel, by decide +kernel⟩, by decide +kernel, rfl⟩
set_option maxRecDepth 100000 in
theorem k_X4_pageFault : q_oki iX4_pageFault := ⟨q_t 211 rfl rfl, q_s 7 rfl rfl, ⟨_, _, rfl⟩⟩
set_option maxRecDepth 100000 in
theorem m_X4_isLetter : q_okm iX4_isLetter 1 := ⟨q_t 202 rfl rfl, q_t 1 rfl rfl, ⟨by decide +kernel, by decide +kernel, by decide +kernel⟩, by decide +kernel, rfl⟩
set_option maxRecDepth 100000 in
theorem k_X4_isLetter : Cond.static (mY iX4_isLetter) ∈ q_tbl := q_t 201 rfl rfl
set_option maxRecDepth 100000 in
theorem m_X4_layTexts : q_okm iX4_layTexts 0 := ⟨q_t 188 rfl rfl, q_t 1 rfl rfl, ⟨by decide +kernel, by decide +kernel, by decide +kernel⟩, by decide +kernel, rfl⟩
set_option maxRecDepth 100000 in
theorem k_X4_layTexts : q_oki iX4_layTexts := ⟨q_t 187 rfl rfl, q_s 3 rfl rfl, ⟨_, _, rfl⟩⟩
set_option maxRecDepth 100000 in
theorem m_X4_layCells : q_okm iX4_layCells 0 := ⟨q_t 208 rfl rfl, q_t 1 rfl rfl, ⟨by decide +kernel, by decide +kernel, by decide +kernel⟩, by decide +kernel, rfl⟩
set_option maxRecDepth 100000 in
theorem k_X4_layCells : q_oki iX4_layCells := ⟨q_t 207 rfl rfl, q_s 6 rfl rfl, ⟨_, _, rfl⟩⟩
set_option maxRecDepth 100000 in
theorem m_X4_printedAt : q_okm iX4_printedAt 1 := ⟨q_t 218 rfl rfl, q_t 1 rfl rfl, ⟨by decide +kernel, by decide +kernel, by decide +kernel⟩, by decide +kernel, rfl⟩
set_option maxRecDepth 100000 in
theorem k_X4_printedAt : q_oki iX4_printedAt := ⟨q_t 217 rfl rfl, q_s 8 rfl rfl, ⟨_, _, rfl⟩⟩
set_option maxRecDepth 100000 in
theorem m_X4_readingOf : q_okm iX4_readingOf 1 := ⟨q_t 292 rfl rfl, q_t 1 rfl rfl, ⟨by decide +kernel, by decide +kernel, by decide +kernel⟩, by decide +kernel, rfl⟩
set_option maxRecDepth 100000 in
theorem k_X4_readingOf : q_oki iX4_readingOf := ⟨q_t 291 rfl rfl, q_s 15 rfl rfl, ⟨_, _, rfl⟩⟩
set_option maxRecDepth 100000 in
theorem m_X4_swapColumns : q_okm iX4_swapColumns 1 := ⟨q_t 303 rfl rfl, q_t 1 rfl rfl, ⟨by decide +kernel, by decide +kernel, by decide +kernel⟩, by decide +kernel, rfl⟩
set_option maxRecDepth 100000 in
theorem k_X4_swapColumns : Cond.static (mY iX4_swapColumns) ∈ q_tbl := q_t 302 rfl rfl
set_option maxRecDepth 100000 in
theorem m_X4_cellsOfLetters : q_okm iX4_cellsOfLetters 0 := ⟨q_t 526 rfl rfl, q_t 1 rfl rfl, ⟨by decide +kernel, by decide +kernel, by decide +kernel⟩, by decide +kernel, rfl⟩
set_option maxRecDepth 100000 in
theorem k_X4_cellsOfLetters : q_oki iX4_cellsOfLetters := ⟨q_t 525 rfl rfl, q_s 42 rfl rfl, ⟨_, _, rfl⟩⟩
set_option maxRecDepth 100000 in
theorem m_X4_signOf : q_okm iX4_signOf 2 := ⟨q_t 336 rfl rfl, q_t 1 rfl rfl, ⟨by decide +kernel, by decide +kernel, by decide +kernel⟩, by decide +kernel, rfl⟩
set_option maxRecDepth 100000 in
theorem k_X4_signOf : q_oki iX4_signOf := ⟨q_t 335 rfl rfl, q_s 21 rfl rfl, ⟨_, _, rfl⟩⟩
set_option maxRecDepth 100000 in
theorem m_X4_wordsBothWays : q_okm iX4_wordsBothWays 0 := ⟨q_t 320 rfl rfl, q_t 1 rfl rfl, ⟨by decide +kernel, by decide +kernel, by decide +kernel⟩, by decide +kernel, rfl⟩
set_option maxRecDepth 100000 in
theorem k_X4_wordsBothWays : q_oki iX4_wordsBothWays := ⟨q_t 319 rfl rfl, q_s 17 rfl rfl, ⟨_, _, rfl⟩⟩
set_option maxRecDepth 100000 in
theorem m_X4_wordFromBehind : q_okm iX4_wordFromBehind 1 := ⟨q_t 324 rfl rfl, q_t 1 rfl rfl, ⟨by decide +kernel, by decide +kernel, by decide +kernel⟩, by decide +kernel, rfl⟩
set_option maxRecDepth 100000 in
theorem k_X4_wordFromBehind : q_oki iX4_wordFromBehind := ⟨q_t 323 rfl rfl, q_s 18 rfl rfl, ⟨_, _, rfl⟩⟩
set_option maxRecDepth 100000 in
theorem m_X4_isReadFromBehindAs : q_okm iX4_isReadFromBehindAs 2 := ⟨q_t 328 rfl rfl, q_t 1 rfl rfl, ⟨by decide +kernel, by decide +kernel, by decide +kernel⟩, by decide +kernel, rfl⟩
set_option maxRecDepth 100000 in
theorem k_X4_isReadFromBehindAs : q_oki iX4_isReadFromBehindAs := ⟨q_t 327 rfl rfl, q_s 19 rfl rfl, ⟨_, _, rfl⟩⟩
set_option maxRecDepth 100000 in
theorem m_X4_hasCellsFor : q_okm iX4_hasCellsFor 2 := ⟨q_t 352 rfl rfl, q_t 1 rfl rfl, ⟨by decide +kernel, by decide +kernel, by decide +kernel⟩, by decide +kernel, rfl⟩
set_option maxRecDepth 100000 in
theorem k_X4_hasCellsFor : q_oki iX4_hasCellsFor := ⟨q_t 351 rfl rfl, q_s 24 rfl rfl, ⟨_, _, rfl⟩⟩
set_option maxRecDepth 100000 in
theorem m_X4_costAt : q_okm iX4_costAt 2 := ⟨q_t 348 rfl rfl, q_t 1 rfl rfl, ⟨by decide +kernel, by decide +kernel, by decide +kernel⟩, by decide +kernel, rfl⟩
set_option maxRecDepth 100000 in
theorem k_X4_costAt : q_oki iX4_costAt := ⟨q_t 347 rfl rfl, q_s 23 rfl rfl, ⟨_, _, rfl⟩⟩
set_option maxRecDepth 100000 in
theorem m_X4_cheapestAt : q_okm iX4_cheapestAt 1 := ⟨q_t 366 rfl rfl, q_t 1 rfl rfl, ⟨by decide +kernel, by decide +kernel, by decide +kernel⟩, by decide +kernel, rfl⟩
set_option maxRecDepth 100000 in
theorem k_X4_cheapestAt : q_oki iX4_cheapestAt := ⟨q_t 365 rfl rfl, q_s 25 rfl rfl, ⟨_, _, rfl⟩⟩
set_option maxRecDepth 100000 in
theorem m_X4_bestLine : q_okm iX4_bestLine 0 := ⟨q_t 378 rfl rfl, q_t 1 rfl rfl, ⟨by decide +kernel, by decide +kernel, by decide +kernel⟩, by decide +kernel, rfl⟩
set_option maxRecDepth 100000 in
theorem k_X4_bestLine : q_oki iX4_bestLine := ⟨q_t 377 rfl rfl, q_s 26 rfl rfl, ⟨_, _, rfl⟩⟩
set_option maxRecDepth 100000 in
theorem m_X4_bestBehindWord : q_okm iX4_bestBehindWord 1 := ⟨q_t 382 rfl rfl, q_t 1 rfl rfl, ⟨by decide +kernel, by decide +kernel, by decide +kernel⟩, by decide +kernel, rfl⟩
set_option maxRecDepth 100000 in
theorem k_X4_bestBehindWord : q_oki iX4_bestBehindWord := ⟨q_t 381 rfl rfl, q_s 27 rfl rfl, ⟨_, _, rfl⟩⟩
set_option maxRecDepth 100000 in
theorem m_X4_isOnePointLess : q_okm iX4_isOnePointLess 2 := ⟨q_t 392 rfl rfl, q_t 1 rfl rfl, ⟨by decide +kernel, by decide +kernel, by decide +kernel⟩, by decide +kernel, rfl⟩
set_option maxRecDepth 100000 in
theorem k_X4_isOnePointLess : Cond.static (mY iX4_isOnePointLess) ∈ q_tbl := q_t 391 rfl rfl
set_option maxRecDepth 100000 in
theorem m_X4_isApartFromOthers : q_okm iX4_isApartFromOthers 2 := ⟨q_t 400 rfl rfl, q_t 1 rfl rfl, ⟨by decide +kernel, by decide +kernel, by decide +kernel⟩, by decide +kernel, rfl⟩
set_option maxRecDepth 100000 in
theorem k_X4_isApartFromOthers : q_oki iX4_isApartFromOthers := ⟨q_t 399 rfl rfl, q_s 28 rfl rfl, ⟨_, _, rfl⟩⟩
set_option maxRecDepth 100000 in
theorem m_X4_freeSigns : q_okm iX4_freeSigns 0 := ⟨q_t 408 rfl rfl, q_t 1 rfl rfl, ⟨by decide +kernel, by decide +kernel, by decide +kernel⟩, by decide +kernel, rfl⟩
set_option maxRecDepth 100000 in
theorem k_X4_freeSigns : q_oki iX4_freeSigns := ⟨q_t 407 rfl rfl, q_s 29 rfl rfl, ⟨_, _, rfl⟩⟩
set_option maxRecDepth 100000 in
theorem m_X4_shortened : q_okm iX4_shortened 1 := ⟨q_t 412 rfl rfl, q_t 1 rfl rfl, ⟨by decide +kernel, by decide +kernel, by decide +kernel⟩, by decide +kernel, rfl⟩
set_option maxRecDepth 100000 in
theorem k_X4_shortened : q_oki iX4_shortened := ⟨q_t 411 rfl rfl, q_s 30 rfl rfl, ⟨_, _, rfl⟩⟩
set_option maxRecDepth 100000 in
theorem m_X4_mostSavingBut : q_okm iX4_mostSavingBut 1 := ⟨q_t 416 rfl rfl, q_t 1 rfl rfl, ⟨by decide +kernel, by decide +kernel, by decide +kernel⟩, by decide +kernel, rfl⟩
set_option maxRecDepth 100000 in
theorem k_X4_mostSavingBut : q_oki iX4_mostSavingBut := ⟨q_t 415 rfl rfl, q_s 31 rfl rfl, ⟨_, _, rfl⟩⟩
set_option maxRecDepth 100000 in
theorem m_X4_savedBy : q_okm iX4_savedBy 1 := ⟨q_t 420 rfl rfl, q_t 1 rfl rfl, ⟨by decide +kernel, by decide +kernel, by decide +kernel⟩, by decide +kernel, rfl⟩
set_option maxRecDepth 100000 in
theorem k_X4_savedBy : q_oki iX4_savedBy := ⟨q_t 419 rfl rfl, q_s 32 rfl rfl, ⟨_, _, rfl⟩⟩
set_option maxRecDepth 100000 in
theorem m_X4_lieTogether : q_okm iX4_lieTogether 3 := ⟨q_t 428 rfl rfl, q_t 1 rfl rfl, ⟨by decide +kernel, by decide +kernel, by decide +kernel⟩, by decide +kernel, rfl⟩
set_option maxRecDepth 100000 in
theorem k_X4_lieTogether : q_oki iX4_lieTogether := ⟨q_t 427 rfl rfl, q_s 33 rfl rfl, ⟨_, _, rfl⟩⟩
set_option maxRecDepth 100000 in
theorem m_X4_firstClash : q_okm iX4_firstClash 1 := ⟨q_t 436 rfl rfl, q_t 1 rfl rfl, ⟨by decide +kernel, by decide +kernel, by decide +kernel⟩, by decide +kernel, rfl⟩
set_option maxRecDepth 100000 in
theorem k_X4_firstClash : q_oki iX4_firstClash := ⟨q_t 435 rfl rfl, q_s 34 rfl rfl, ⟨_, _, rfl⟩⟩
set_option maxRecDepth 100000 in
theorem m_X4_skippedAt : q_okm iX4_skippedAt 1 := ⟨q_t 448 rfl rfl, q_t 1 rfl rfl, ⟨by decide +kernel, by decide +kernel, by decide +kernel⟩, by decide +kernel, rfl⟩
set_option maxRecDepth 100000 in
theorem k_X4_skippedAt : q_oki iX4_skippedAt := ⟨q_t 447 rfl rfl, q_s 35 rfl rfl, ⟨_, _, rfl⟩⟩
set_option maxRecDepth 100000 in
theorem m_X4_skippedBy : q_okm iX4_skippedBy 1 := ⟨q_t 452 rfl rfl, q_t 1 rfl rfl, ⟨by decide +kernel, by decide +kernel, by decide +kernel⟩, by decide +kernel, rfl⟩
set_option maxRecDepth 100000 in
theorem k_X4_skippedBy : q_oki iX4_skippedBy := ⟨q_t 451 rfl rfl, q_s 36 rfl rfl, ⟨_, _, rfl⟩⟩
set_option maxRecDepth 100000 in
theorem m_X4_wearDown : q_okm iX4_wearDown 1 := ⟨q_t 460 rfl rfl, q_t 1 rfl rfl, ⟨by decide +kernel, by decide +kernel, by decide +kernel⟩, by decide +kernel, rfl⟩
set_option maxRecDepth 100000 in
theorem k_X4_wearDown : q_oki iX4_wearDown := ⟨q_t 459 rfl rfl, q_s 37 rfl rfl, ⟨_, _, rfl⟩⟩
set_option maxRecDepth 100000 in
theorem m_X4_nextRaised : q_okm iX4_nextRaised 1 := ⟨q_t 464 rfl rfl, q_t 1 rfl rfl, ⟨by decide +kernel, by decide +kernel, by decide +kernel⟩, by decide +kernel, rfl⟩
set_option maxRecDepth 100000 in
theorem k_X4_nextRaised : q_oki iX4_nextRaised := ⟨q_t 463 rfl rfl, q_s 38 rfl rfl, ⟨_, _, rfl⟩⟩
set_option maxRecDepth 100000 in
theorem m_X4_withoutGreatestPoint : q_okm iX4_withoutGreatestPoint 1 := ⟨q_t 467 rfl rfl, q_t 1 rfl rfl, ⟨by decide +kernel, by decide +kernel, by decide +kernel⟩, by decide +kernel, rfl⟩
set_option maxRecDepth 100000 in
theorem k_X4_withoutGreatestPoint : Cond.static (mY iX4_withoutGreatestPoint) ∈ q_tbl := q_t 466 rfl rfl
set_option maxRecDepth 100000 in
theorem m_X4_sheetAt : q_okm iX4_sheetAt 1 := ⟨q_t 247 rfl rfl, q_t 1 rfl rfl, ⟨by decide +kernel, by decide +kernel, by decide +kernel⟩, by decide +kernel, rfl⟩
set_option maxRecDepth 100000 in
theorem k_X4_sheetAt : q_oki iX4_sheetAt := ⟨q_t 246 rfl rfl, q_s 10 rfl rfl, ⟨_, _, rfl⟩⟩
set_option maxRecDepth 100000 in
theorem m_X4_find : q_okm iX4_find 1 := ⟨q_t 255 rfl rfl, q_t 1 rfl rfl, ⟨by decide +kernel, by decide +kernel, by decide +kernel⟩, by decide +kernel, rfl⟩
set_option maxRecDepth 100000 in
theorem k_X4_find : q_oki iX4_find := ⟨q_t 254 rfl rfl, q_s 12 rfl rfl, ⟨_, _, rfl⟩⟩
set_option maxRecDepth 100000 in
theorem m_X4_itemFinding : q_okm iX4_itemFinding 3 := ⟨q_t 493 rfl rfl, q_t 1 rfl rfl, ⟨by decide +kernel, by decide +kernel, by decide +kernel⟩, by decide +kernel, rfl⟩
set_option maxRecDepth 100000 in
theorem k_X4_itemFinding : Cond.static (mY iX4_itemFinding) ∈ q_tbl := q_t 492 rfl rfl
set_option maxRecDepth 100000 in
theorem m_X5_in : q_okm iX5_in 3 := ⟨q_t 650 rfl rfl, q_t 8 rfl rfl, ⟨by decide +kernel, by decide +kernel, by decide +kernel⟩, by decide +kernel, rfl⟩
set_option maxRecDepth 100000 in
theorem k_X5_in : Cond.static (mY iX5_in) ∈ q_tbl := q_t 649 rfl rfl
set_option maxRecDepth 100000 in
theorem m_X5_ones : q_okm iX5_ones 1 := ⟨q_t 783 rfl rfl, q_t 8 rfl rfl, ⟨by decide +kernel, by decide +kernel, by decide +kernel⟩, by decide +kernel, rfl⟩
set_option maxRecDepth 100000 in
theorem k_X5_ones : Cond.static (mY iX5_ones) ∈ q_tbl := q_t 782 rfl rfl
set_option maxRecDepth 100000 in
theorem m_X5_type : q_okm iX5_type 2 := ⟨q_t 647 rfl rfl, q_t 8 rfl rfl, ⟨by decide +kernel, by decide +kernel, by decide +kernel⟩, by decide +kernel, rfl⟩
set_option maxRecDepth 100000 in
theorem k_X5_type : q_oki iX5_type := ⟨q_t 645 rfl rfl, q_t 646 rfl rfl, ⟨_, _, rfl⟩⟩
set_option maxRecDepth 100000 in
theorem m_X5_wipe : q_okm iX5_wipe 1 := ⟨q_t 654 rfl rfl, q_t 8 rfl rfl, ⟨by decide +kernel, by decide +kernel, by decide +kernel⟩, by decide +kernel, rfl⟩
set_option maxRecDepth 100000 in
theorem k_X5_wipe : q_oki iX5_wipe := ⟨q_t 652 rfl rfl, q_t 653 rfl rfl, ⟨_, _, rfl⟩⟩
set_option maxRecDepth 100000 in
theorem m_X5_letterAt : q_okm iX5_letterAt 2 := ⟨q_t 670 rfl rfl, q_t 8 rfl rfl, ⟨by decide +kernel, by decide +kernel, by decide +kernel⟩, by decide +kernel, rfl⟩
set_option maxRecDepth 100000 in
theorem k_X5_letterAt : q_oki iX5_letterAt := ⟨q_t 669 rfl rfl, q_s 47 rfl rfl, ⟨_, _, rfl⟩⟩
set_option maxRecDepth 100000 in
theorem m_X5_readsPage : q_okm iX5_readsPage 0 := ⟨q_t 666 rfl rfl, q_t 8 rfl rfl, ⟨by decide +kernel, by decide +kernel, by decide +kernel⟩, by decide +kernel, rfl⟩
set_option maxRecDepth 100000 in
theorem k_X5_readsPage : q_oki iX5_readsPage := ⟨q_t 665 rfl rfl, q_s 46 rfl rfl, ⟨_, _, rfl⟩⟩
set_option maxRecDepth 100000 in
theorem m_X5_readsWords : q_okm iX5_readsWords 0 := ⟨q_t 674 rfl rfl, q_t 8 rfl rfl, ⟨by decide +kernel, by decide +kernel, by decide +kernel⟩, by decide +kernel, rfl⟩
set_option maxRecDepth 100000 in
theorem k_X5_readsWords : q_oki iX5_readsWords := ⟨q_t 673 rfl rfl, q_s 48 rfl rfl, ⟨_, _, rfl⟩⟩
set_option maxRecDepth 100000 in
theorem m_X5_faultOf : q_okm iX5_faultOf 1 := ⟨q_t 662 rfl rfl, q_t 8 rfl rfl, ⟨by decide +kernel, by decide +kernel, by decide +kernel⟩, by decide +kernel, rfl⟩
set_option maxRecDepth 100000 in
theorem k_X5_faultOf : q_oki iX5_faultOf := ⟨q_t 661 rfl rfl, q_s 45 rfl rfl, ⟨_, _, rfl⟩⟩
set_option maxRecDepth 100000 in
theorem m_X5_reads : q_okm iX5_reads 0 := ⟨q_t 717 rfl rfl, q_t 8 rfl rfl, ⟨by decide +kernel, by decide +kernel, by decide +kernel⟩, by decide +kernel, rfl⟩
set_option maxRecDepth 100000 in
theorem k_X5_reads : q_oki iX5_reads := ⟨q_t 716 rfl rfl, q_s 51 rfl rfl, ⟨_, _, rfl⟩⟩
set_option maxRecDepth 100000 in
theorem m_X5_fault : q_okm iX5_fault 1 := ⟨q_t 658 rfl rfl, q_t 8 rfl rfl, ⟨by decide +kernel, by decide +kernel, by decide +kernel⟩, by decide +kernel, rfl⟩
set_option maxRecDepth 100000 in
theorem k_X5_fault : q_oki iX5_fault := ⟨q_t 656 rfl rfl, q_t 657 rfl rfl, ⟨_, _, rfl⟩⟩
set_option maxRecDepth 100000 in
theorem m_X5_isCell : q_okm iX5_isCell 1 := ⟨q_t 713 rfl rfl, q_t 8 rfl rfl, ⟨by decide +kernel, by decide +kernel, by decide +kernel⟩, by decide +kernel, rfl⟩
set_option maxRecDepth 100000 in
theorem k_X5_isCell : q_oki iX5_isCell := ⟨q_t 712 rfl rfl, q_s 50 rfl rfl, ⟨_, _, rfl⟩⟩
set_option maxRecDepth 100000 in
theorem m_X5_isWord : q_okm iX5_isWord 1 := ⟨q_t 772 rfl rfl, q_t 8 rfl rfl, ⟨by decide +kernel, by decide +kernel, by decide +kernel⟩, by decide +kernel, rfl⟩
set_option maxRecDepth 100000 in
theorem k_X5_isWord : q_oki iX5_isWord := ⟨q_t 771 rfl rfl, q_s 59 rfl rfl, ⟨_, _, rfl⟩⟩
set_option maxRecDepth 100000 in
theorem m_X5_sign : q_okm iX5_sign 2 := ⟨q_t 678 rfl rfl, q_t 8 rfl rfl, ⟨by decide +kernel, by decide +kernel, by decide +kernel⟩, by decide +kernel, rfl⟩
set_option maxRecDepth 100000 in
theorem k_X5_sign : q_oki iX5_sign := ⟨q_t 676 rfl rfl, q_t 677 rfl rfl, ⟨_, _, rfl⟩⟩
set_option maxRecDepth 100000 in
theorem m_X5_read : q_okm iX5_read 1 := ⟨q_t 682 rfl rfl, q_t 8 rfl rfl, ⟨by decide +kernel, by decide +kernel, by decide +kernel⟩, by decide +kernel, rfl⟩
set_option maxRecDepth 100000 in
theorem k_X5_read : q_oki iX5_read := ⟨q_t 680 rfl rfl, q_t 681 rfl rfl, ⟨_, _, rfl⟩⟩
set_option maxRecDepth 100000 in
theorem m_X5_slip : q_okm iX5_slip 3 := ⟨q_t 693 rfl rfl, q_t 8 rfl rfl, ⟨by decide +kernel, by decide +kernel, by decide +kernel⟩, by decide +kernel, rfl⟩
set_option maxRecDepth 100000 in
theorem k_X5_slip : q_oki iX5_slip := ⟨q_t 691 rfl rfl, q_t 692 rfl rfl, ⟨_, _, rfl⟩⟩
set_option maxRecDepth 100000 in
theorem m_X5_undo : q_okm iX5_undo 0 := ⟨q_t 697 rfl rfl, q_t 8 rfl rfl, ⟨by decide +kernel, by decide +kernel, by decide +kernel⟩, by decide +kernel, rfl⟩
set_option maxRecDepth 100000 in
theorem k_X5_undo : q_oki iX5_undo := ⟨q_t 695 rfl rfl, q_t 696 rfl rfl, ⟨_, _, rfl⟩⟩
set_option maxRecDepth 100000 in
theorem m_X5_set : q_okm iX5_set 2 := ⟨q_t 701 rfl rfl, q_t 8 rfl rfl, ⟨by decide +kernel, by decide +kernel, by decide +kernel⟩, by decide +kernel, rfl⟩
set_option maxRecDepth 100000 in
theorem k_X5_set : q_oki iX5_set := ⟨q_t 699 rfl rfl, q_t 700 rfl rfl, ⟨_, _, rfl⟩⟩
set_option maxRecDepth 100000 in
theorem m_X5_often : q_okm iX5_often 2 := ⟨q_t 705 rfl rfl, q_t 8 rfl rfl, ⟨by decide +kernel, by decide +kernel, by decide +kernel⟩, by decide +kernel, rfl⟩
set_option maxRecDepth 100000 in
theorem k_X5_often : q_oki iX5_often := ⟨q_t 703 rfl rfl, q_t 704 rfl rfl, ⟨_, _, rfl⟩⟩
set_option maxRecDepth 100000 in
theorem m_X5_signOf : q_okm iX5_signOf 1 := ⟨q_t 725 rfl rfl, q_t 8 rfl rfl, ⟨by decide +kernel, by decide +kernel, by decide +kernel⟩, by decide +kernel, rfl⟩
set_option maxRecDepth 100000 in
theorem k_X5_signOf : q_oki iX5_signOf := ⟨q_t 724 rfl rfl, q_s 53 rfl rfl, ⟨_, _, rfl⟩⟩
set_option maxRecDepth 100000 in
theorem m_X5_cellOf : q_okm iX5_cellOf 1 := ⟨q_t 721 rfl rfl, q_t 8 rfl rfl, ⟨by decide +kernel, by decide +kernel, by decide +kernel⟩, by decide +kernel, rfl⟩
set_option maxRecDepth 100000 in
theorem k_X5_cellOf : q_oki iX5_cellOf := ⟨q_t 720 rfl rfl, q_s 52 rfl rfl, ⟨_, _, rfl⟩⟩
set_option maxRecDepth 100000 in
theorem m_X5_cell : q_okm iX5_cell 1 := ⟨q_t 709 rfl rfl, q_t 8 rfl rfl, ⟨by decide +kernel, by decide +kernel, by decide +kernel⟩, by decide +kernel, rfl⟩
set_option maxRecDepth 100000 in
theorem k_X5_cell : q_oki iX5_cell := ⟨q_t 707 rfl rfl, q_t 708 rfl rfl, ⟨_, _, rfl⟩⟩
set_option maxRecDepth 100000 in
theorem m_X5_readAs : q_okm iX5_readAs 1 := ⟨q_t 733 rfl rfl, q_t 8 rfl rfl, ⟨by decide +kernel, by decide +kernel, by decide +kernel⟩, by decide +kernel, rfl⟩
set_option maxRecDepth 100000 in
theorem k_X5_readAs : q_oki iX5_readAs := ⟨q_t 732 rfl rfl, q_s 54 rfl rfl, ⟨_, _, rfl⟩⟩
set_option maxRecDepth 100000 in
theorem m_X5_letter : q_okm iX5_letter 1 := ⟨q_t 729 rfl rfl, q_t 8 rfl rfl, ⟨by decide +kernel, by decide +kernel, by decide +kernel⟩, by decide +kernel, rfl⟩
set_option maxRecDepth 100000 in
theorem k_X5_letter : q_oki iX5_letter := ⟨q_t 727 rfl rfl, q_t 728 rfl rfl, ⟨_, _, rfl⟩⟩
set_option maxRecDepth 100000 in
theorem m_X5_judgedNow : q_okm iX5_judgedNow 0 := ⟨q_t 741 rfl rfl, q_t 8 rfl rfl, ⟨by decide +kernel, by decide +kernel, by decide +kernel⟩, by decide +kernel, rfl⟩
set_option maxRecDepth 100000 in
theorem k_X5_judgedNow : q_oki iX5_judgedNow := ⟨q_t 740 rfl rfl, q_s 55 rfl rfl, ⟨_, _, rfl⟩⟩
set_option maxRecDepth 100000 in
theorem m_X5_judged : q_okm iX5_judged 0 := ⟨q_t 737 rfl rfl, q_t 8 rfl rfl, ⟨by decide +kernel, by decide +kernel, by decide +kernel⟩, by decide +kernel, rfl⟩
set_option maxRecDepth 100000 in
theorem k_X5_judged : q_oki iX5_judged := ⟨q_t 735 rfl rfl, q_t 736 rfl rfl, ⟨_, _, rfl⟩⟩
set_option maxRecDepth 100000 in
theorem m_X5_turned : q_okm iX5_turned 1 := ⟨q_t 752 rfl rfl, q_t 8 rfl rfl, ⟨by decide +kernel, by decide +kernel, by decide +kernel⟩, by decide +kernel, rfl⟩
set_option maxRecDepth 100000 in
theorem k_X5_turned : Cond.static (mY iX5_turned) ∈ q_tbl := q_t 751 rfl rfl
set_option maxRecDepth 100000 in
theorem m_X5_wrongOf : q_okm iX5_wrongOf 1 := ⟨q_t 749 rfl rfl, q_t 8 rfl rfl, ⟨by decide +kernel, by decide +kernel, by decide +kernel⟩, by decide +kernel, rfl⟩
set_option maxRecDepth 100000 in
theorem k_X5_wrongOf : q_oki iX5_wrongOf := ⟨q_t 748 rfl rfl, q_s 56 rfl rfl, ⟨_, _, rfl⟩⟩
set_option maxRecDepth 100000 in
theorem m_X5_wrong : q_okm iX5_wrong 1 := ⟨q_t 745 rfl rfl, q_t 8 rfl rfl, ⟨by decide +kernel, by decide +kernel, by decide +kernel⟩, by decide +kernel, rfl⟩
set_option maxRecDepth 100000 in
theorem k_X5_wrong : q_oki iX5_wrong := ⟨q_t 743 rfl rfl, q_t 744 rfl rfl, ⟨_, _, rfl⟩⟩
set_option maxRecDepth 100000 in
theorem m_X5_mirrored : q_okm iX5_mirrored 1 := ⟨q_t 756 rfl rfl, q_t 8 rfl rfl, ⟨by decide +kernel, by decide +kernel, by decide +kernel⟩, by decide +kernel, rfl⟩
set_option maxRecDepth 100000 in
theorem k_X5_mirrored : q_oki iX5_mirrored := ⟨q_t 754 rfl rfl, q_t 755 rfl rfl, ⟨_, _, rfl⟩⟩
set_option maxRecDepth 100000 in
theorem m_X5_bothOf : q_okm iX5_bothOf 1 := ⟨q_t 768 rfl rfl, q_t 8 rfl rfl, ⟨by decide +kernel, by decide +kernel, by decide +kernel⟩, by decide +kernel, rfl⟩
set_option maxRecDepth 100000 in
theorem k_X5_bothOf : q_oki iX5_bothOf := ⟨q_t 767 rfl rfl, q_s 58 rfl rfl, ⟨_, _, rfl⟩⟩
set_option maxRecDepth 100000 in
theorem m_X5_bothAll : q_okm iX5_bothAll 0 := ⟨q_t 764 rfl rfl, q_t 8 rfl rfl, ⟨by decide +kernel, by decide +kernel, by decide +kernel⟩, by decide +kernel, rfl⟩
set_option maxRecDepth 100000 in
theorem k_X5_bothAll : q_oki iX5_bothAll := ⟨q_t 763 rfl rfl, q_s 57 rfl rfl, ⟨_, _, rfl⟩⟩
set_option maxRecDepth 100000 in
theorem m_X5_both : q_okm iX5_both 1 := ⟨q_t 760 rfl rfl, q_t 8 rfl rfl, ⟨by decide +kernel, by decide +kernel, by decide +kernel⟩, by decide +kernel, rfl⟩
set_option maxRecDepth 100000 in
theorem k_X5_both : q_oki iX5_both := ⟨q_t 758 rfl rfl, q_t 759 rfl rfl, ⟨_, _, rfl⟩⟩
set_option maxRecDepth 100000 in
theorem m_X5_fitsOf : q_okm iX5_fitsOf 2 := ⟨q_t 780 rfl rfl, q_t 8 rfl rfl, ⟨by decide +kernel, by decide +kernel, by decide +kernel⟩, by decide +kernel, rfl⟩
set_option maxRecDepth 100000 in
theorem k_X5_fitsOf : q_oki iX5_fitsOf := ⟨q_t 779 rfl rfl, q_s 60 rfl rfl, ⟨_, _, rfl⟩⟩
set_option maxRecDepth 100000 in
theorem m_X5_fits : q_okm iX5_fits 2 := ⟨q_t 776 rfl rfl, q_t 8 rfl rfl, ⟨by decide +kernel, by decide +kernel, by decide +kernel⟩, by decide +kernel, rfl⟩
set_option maxRecDepth 100000 in
theorem k_X5_fits : q_oki iX5_fits := ⟨q_t 774 rfl rfl, q_t 775 rfl rfl, ⟨_, _, rfl⟩⟩
set_option maxRecDepth 100000 in
theorem m_X5_meantOf : q_okm iX5_meantOf 2 := ⟨q_t 791 rfl rfl, q_t 8 rfl rfl, ⟨by decide +kernel, by decide +kernel, by decide +kernel⟩, by decide +kernel, rfl⟩
set_option maxRecDepth 100000 in
theorem k_X5_meantOf : q_oki iX5_meantOf := ⟨q_t 790 rfl rfl, q_s 61 rfl rfl, ⟨_, _, rfl⟩⟩
set_option maxRecDepth 100000 in
theorem m_X5_meant : q_okm iX5_meant 2 := ⟨q_t 787 rfl rfl, q_t 8 rfl rfl, ⟨by decide +kernel, by decide +kernel, by decide +kernel⟩, by decide +kernel, rfl⟩
set_option maxRecDepth 100000 in
theorem k_X5_meant : q_oki iX5_meant := ⟨q_t 785 rfl rfl, q_t 786 rfl rfl, ⟨_, _, rfl⟩⟩
set_option maxRecDepth 100000 in
theorem m_X5_withinOf : q_okm iX5_withinOf 2 := ⟨q_t 799 rfl rfl, q_t 8 rfl rfl, ⟨by decide +kernel, by decide +kernel, by decide +kernel⟩, by decide +kernel, rfl⟩
set_option maxRecDepth 100000 in
theorem k_X5_withinOf : q_oki iX5_withinOf := ⟨q_t 798 rfl rfl, q_s 62 rfl rfl, ⟨_, _, rfl⟩⟩
set_option maxRecDepth 100000 in
theorem m_X5_within : q_okm iX5_within 2 := ⟨q_t 795 rfl rfl, q_t 8 rfl rfl, ⟨by decide +kernel, by decide +kernel, by decide +kernel⟩, by decide +kernel, rfl⟩
set_option maxRecDepth 100000 in
theorem k_X5_within : q_oki iX5_within := ⟨q_t 793 rfl rfl, q_t 794 rfl rfl, ⟨_, _, rfl⟩⟩
set_option maxRecDepth 100000 in
theorem m_X5_lineOf : q_okm iX5_lineOf 1 := ⟨q_t 807 rfl rfl, q_t 8 rfl rfl, ⟨by decide +kernel, by decide +kernel, by decide +kernel⟩, by decide +kernel, rfl⟩
set_option maxRecDepth 100000 in
theorem k_X5_lineOf : q_oki iX5_lineOf := ⟨q_t 806 rfl rfl, q_s 63 rfl rfl, ⟨_, _, rfl⟩⟩
set_option maxRecDepth 100000 in
theorem m_X5_line : q_okm iX5_line 1 := ⟨q_t 803 rfl rfl, q_t 8 rfl rfl, ⟨by decide +kernel, by decide +kernel, by decide +kernel⟩, by decide +kernel, rfl⟩
set_option maxRecDepth 100000 in
theorem k_X5_line : q_oki iX5_line := ⟨q_t 801 rfl rfl, q_t 802 rfl rfl, ⟨_, _, rfl⟩⟩
set_option maxRecDepth 100000 in
theorem m_X5_isLess : q_okm iX5_isLess 2 := ⟨q_t 818 rfl rfl, q_t 8 rfl rfl, ⟨by decide +kernel, by decide +kernel, by decide +kernel⟩, by decide +kernel, rfl⟩
set_option maxRecDepth 100000 in
theorem k_X5_isLess : Cond.static (mY iX5_isLess) ∈ q_tbl := q_t 817 rfl rfl
set_option maxRecDepth 100000 in
theorem m_X5_slipperyNow : q_okm iX5_slipperyNow 0 := ⟨q_t 815 rfl rfl, q_t 8 rfl rfl, ⟨by decide +kernel, by decide +kernel, by decide +kernel⟩, by decide +kernel, rfl⟩
set_option maxRecDepth 100000 in
theorem k_X5_slipperyNow : q_oki iX5_slipperyNow := ⟨q_t 814 rfl rfl, q_s 64 rfl rfl, ⟨_, _, rfl⟩⟩
set_option maxRecDepth 100000 in
theorem m_X5_slippery : q_okm iX5_slippery 0 := ⟨q_t 811 rfl rfl, q_t 8 rfl rfl, ⟨by decide +kernel, by decide +kernel, by decide +kernel⟩, by decide +kernel, rfl⟩
set_option maxRecDepth 100000 in
theorem k_X5_slippery : q_oki iX5_slippery := ⟨q_t 809 rfl rfl, q_t 810 rfl rfl, ⟨_, _, rfl⟩⟩
set_option maxRecDepth 100000 in
theorem m_X5_betterOf : q_okm iX5_betterOf 1 := ⟨q_t 826 rfl rfl, q_t 8 rfl rfl, ⟨by decide +kernel, by decide +kernel, by decide +kernel⟩, by decide +kernel, rfl⟩
set_option maxRecDepth 100000 in
theorem k_X5_betterOf : q_oki iX5_betterOf := ⟨q_t 825 rfl rfl, q_s 65 rfl rfl, ⟨_, _, rfl⟩⟩
set_option maxRecDepth 100000 in
theorem m_X5_better : q_okm iX5_better 1 := ⟨q_t 822 rfl rfl, q_t 8 rfl rfl, ⟨by decide +kernel, by decide +kernel, by decide +kernel⟩, by decide +kernel, rfl⟩
set_option maxRecDepth 100000 in
theorem k_X5_better : q_oki iX5_better := ⟨q_t 820 rfl rfl, q_t 821 rfl rfl, ⟨_, _, rfl⟩⟩
set_option maxRecDepth 100000 in
theorem m_X5_freeSigns : q_okm iX5_freeSigns 0 := ⟨q_t 838 rfl rfl, q_t 8 rfl rfl, ⟨by decide +kernel, by decide +kernel, by decide +kernel⟩, by decide +kernel, rfl⟩
set_option maxRecDepth 100000 in
theorem k_X5_freeSigns : q_oki iX5_freeSigns := ⟨q_t 837 rfl rfl, q_s 67 rfl rfl, ⟨_, _, rfl⟩⟩
set_option maxRecDepth 100000 in
theorem m_X5_shortsOf : q_okm iX5_shortsOf 2 := ⟨q_t 834 rfl rfl, q_t 8 rfl rfl, ⟨by decide +kernel, by decide +kernel, by decide +kernel⟩, by decide +kernel, rfl⟩
set_option maxRecDepth 100000 in
theorem k_X5_shortsOf : q_oki iX5_shortsOf := ⟨q_t 833 rfl rfl, q_s 66 rfl rfl, ⟨_, _, rfl⟩⟩
set_option maxRecDepth 100000 in
theorem m_X5_shorts : q_okm iX5_shorts 2 := ⟨q_t 830 rfl rfl, q_t 8 rfl rfl, ⟨by decide +kernel, by decide +kernel, by decide +kernel⟩, by decide +kernel, rfl⟩
set_option maxRecDepth 100000 in
theorem k_X5_shorts : q_oki iX5_shorts := ⟨q_t 828 rfl rfl, q_t 829 rfl rfl, ⟨_, _, rfl⟩⟩
set_option maxRecDepth 100000 in
theorem m_X5_underOf : q_okm iX5_underOf 2 := ⟨q_t 846 rfl rfl, q_t 8 rfl rfl, ⟨by decide +kernel, by decide +kernel, by decide +kernel⟩, by decide +kernel, rfl⟩
set_option maxRecDepth 100000 in
theorem k_X5_underOf : q_oki iX5_underOf := ⟨q_t 845 rfl rfl, q_s 68 rfl rfl, ⟨_, _, rfl⟩⟩
set_option maxRecDepth 100000 in
theorem m_X5_under : q_okm iX5_under 2 := ⟨q_t 842 rfl rfl, q_t 8 rfl rfl, ⟨by decide +kernel, by decide +kernel, by decide +kernel⟩, by decide +kernel, rfl⟩
set_option maxRecDepth 100000 in
theorem k_X5_under : q_oki iX5_under := ⟨q_t 840 rfl rfl, q_t 841 rfl rfl, ⟨_, _, rfl⟩⟩
set_option maxRecDepth 100000 in
theorem m_X5_clashOf : q_okm iX5_clashOf 1 := ⟨q_t 854 rfl rfl, q_t 8 rfl rfl, ⟨by decide +kernel, by decide +kernel, by decide +kernel⟩, by decide +kernel, rfl⟩
set_option maxRecDepth 100000 in
theorem k_X5_clashOf : q_oki iX5_clashOf := ⟨q_t 853 rfl rfl, q_s 69 rfl rfl, ⟨_, _, rfl⟩⟩
set_option maxRecDepth 100000 in
theorem m_X5_clash : q_okm iX5_clash 1 := ⟨q_t 850 rfl rfl, q_t 8 rfl rfl, ⟨by decide +kernel, by decide +kernel, by decide +kernel⟩, by decide +kernel, rfl⟩
set_option maxRecDepth 100000 in
theorem k_X5_clash : q_oki iX5_clash := ⟨q_t 848 rfl rfl, q_t 849 rfl rfl, ⟨_, _, rfl⟩⟩
set_option maxRecDepth 100000 in
theorem m_X5_hand : q_okm iX5_hand 3 := ⟨q_t 858 rfl rfl, q_t 8 rfl rfl, ⟨by decide +kernel, by decide +kernel, by decide +kernel⟩, by decide +kernel, rfl⟩
set_option maxRecDepth 100000 in
theorem k_X5_hand : q_oki iX5_hand := ⟨q_t 856 rfl rfl, q_t 857 rfl rfl, ⟨_, _, rfl⟩⟩
set_option maxRecDepth 100000 in
theorem m_X5_whoseNow : q_okm iX5_whoseNow 0 := ⟨q_t 866 rfl rfl, q_t 8 rfl rfl, ⟨by decide +kernel, by decide +kernel, by decide +kernel⟩, by decide +kernel, rfl⟩
set_option maxRecDepth 100000 in
theorem k_X5_whoseNow : q_oki iX5_whoseNow := ⟨q_t 865 rfl rfl, q_s 70 rfl rfl, ⟨_, _, rfl⟩⟩
set_option maxRecDepth 100000 in
theorem m_X5_whose : q_okm iX5_whose 0 := ⟨q_t 862 rfl rfl, q_t 8 rfl rfl, ⟨by decide +kernel, by decide +kernel, by decide +kernel⟩, by decide +kernel, rfl⟩
set_option maxRecDepth 100000 in
theorem k_X5_whose : q_oki iX5_whose := ⟨q_t 860 rfl rfl, q_t 861 rfl rfl, ⟨_, _, rfl⟩⟩
set_option maxRecDepth 100000 in
theorem m_X5_wearOf : q_okm iX5_wearOf 2 := ⟨q_t 874 rfl rfl, q_t 8 rfl rfl, ⟨by decide +kernel, by decide +kernel, by decide +kernel⟩, by decide +kernel, rfl⟩
set_option maxRecDepth 100000 in
theorem k_X5_wearOf : q_oki iX5_wearOf := ⟨q_t 873 rfl rfl, q_s 71 rfl rfl, ⟨_, _, rfl⟩⟩
set_option maxRecDepth 100000 in
theorem m_X5_wear : q_okm iX5_wear 2 := ⟨q_t 870 rfl rfl, q_t 8 rfl rfl, ⟨by decide +kernel, by decide +kernel, by decide +kernel⟩, by decide +kernel, rfl⟩
set_option maxRecDepth 100000 in
theorem k_X5_wear : q_oki iX5_wear := ⟨q_t 868 rfl rfl, q_t 869 rfl rfl, ⟨_, _, rfl⟩⟩
set_option maxRecDepth 100000 in
theorem m_X5_meets : q_okm iX5_meets 1 := ⟨q_t 689 rfl rfl, q_t 8 rfl rfl, ⟨by decide +kernel, by decide +kernel, by decide +kernel⟩, by decide +kernel, rfl⟩
set_option maxRecDepth 100000 in
theorem k_X5_meets : q_oki iX5_meets := ⟨q_t 688 rfl rfl, q_s 49 rfl rfl, ⟨_, _, rfl⟩⟩
set_option maxRecDepth 100000 in
theorem m_X5_isSheet : q_okm iX5_isSheet 1 := ⟨q_t 685 rfl rfl, q_t 8 rfl rfl, ⟨by decide +kernel, by decide +kernel, by decide +kernel⟩, by decide +kernel, rfl⟩
set_option maxRecDepth 100000 in
theorem k_X5_isSheet : Cond.static (mY iX5_isSheet) ∈ q_tbl := q_t 684 rfl rfl
set_option maxRecDepth 100000 in
theorem m_X5_sheet : q_okm iX5_sheet 3 := ⟨q_t 878 rfl rfl, q_t 8 rfl rfl, ⟨by decide +kernel, by decide +kernel, by decide +kernel⟩, by decide +kernel, rfl⟩
set_option maxRecDepth 100000 in
theorem k_X5_sheet : q_oki iX5_sheet := ⟨q_t 876 rfl rfl, q_t 877 rfl rfl, ⟨_, _, rfl⟩⟩
set_option maxRecDepth 100000 in
theorem m_X5_lose : q_okm iX5_lose 1 := ⟨q_t 882 rfl rfl, q_t 8 rfl rfl, ⟨by decide +kernel, by decide +kernel, by decide +kernel⟩, by decide +kernel, rfl⟩
set_option maxRecDepth 100000 in
theorem k_X5_lose : q_oki iX5_lose := ⟨q_t 880 rfl rfl, q_t 881 rfl rfl, ⟨_, _, rfl⟩⟩
set_option maxRecDepth 100000 in
theorem m_X5_lacks : q_okm iX5_lacks 3 := ⟨q_t 890 rfl rfl, q_t 8 rfl rfl, ⟨by decide +kernel, by decide +kernel, by decide +kernel⟩, by decide +kernel, rfl⟩
set_option maxRecDepth 100000 in
theorem k_X5_lacks : q_oki iX5_lacks := ⟨q_t 889 rfl rfl, q_s 72 rfl rfl, ⟨_, _, rfl⟩⟩
set_option maxRecDepth 100000 in
theorem m_X5_keep : q_okm iX5_keep 3 := ⟨q_t 894 rfl rfl, q_t 8 rfl rfl, ⟨by decide +kernel, by decide +kernel, by decide +kernel⟩, by decide +kernel, rfl⟩
set_option maxRecDepth 100000 in
theorem k_X5_keep : q_oki iX5_keep := ⟨q_t 893 rfl rfl, q_s 73 rfl rfl, ⟨_, _, rfl⟩⟩
set_option maxRecDepth 100000 in
theorem m_X5_put : q_okm iX5_put 4 := ⟨q_t 886 rfl rfl, q_t 8 rfl rfl, ⟨by decide +kernel, by decide +kernel, by decide +kernel⟩, by decide +kernel, rfl⟩
set_option maxRecDepth 100000 in
theorem k_X5_put : q_oki iX5_put := ⟨q_t 884 rfl rfl, q_t 885 rfl rfl, ⟨_, _, rfl⟩⟩
set_option maxRecDepth 100000 in
theorem m_X5_get : q_okm iX5_get 3 := ⟨q_t 898 rfl rfl, q_t 8 rfl rfl, ⟨by decide +kernel, by decide +kernel, by decide +kernel⟩, by decide +kernel, rfl⟩
set_option maxRecDepth 100000 in
theorem k_X5_get : q_oki iX5_get := ⟨q_t 896 rfl rfl, q_t 897 rfl rfl, ⟨_, _, rfl⟩⟩
set_option maxRecDepth 100000 in
theorem m_X5_copy : q_okm iX5_copy 5 := ⟨q_t 903 rfl rfl, q_t 8 rfl rfl, ⟨by decide +kernel, by decide +kernel, by decide +kernel⟩, by decide +kernel, rfl⟩
set_option maxRecDepth 100000 in
theorem k_X5_copy : q_oki iX5_copy := ⟨q_t 901 rfl rfl, q_t 902 rfl rfl, ⟨_, _, rfl⟩⟩
set_option maxRecDepth 100000 in
theorem m_X5_write : q_okm iX5_write 1 := ⟨q_t 907 rfl rfl, q_t 8 rfl rfl, ⟨by decide +kernel, by decide +kernel, by decide +kernel⟩, by decide +kernel, rfl⟩
set_option maxRecDepth 100000 in
theorem k_X5_write : q_oki iX5_write := ⟨q_t 905 rfl rfl, q_t 906 rfl rfl, ⟨_, _, rfl⟩⟩
set_option maxRecDepth 100000 in
theorem m_X5_sumOf : q_okm iX5_sumOf 1 := ⟨q_t 915 rfl rfl, q_t 8 rfl rfl, ⟨by decide +kernel, by decide +kernel, by decide +kernel⟩, by decide +kernel, rfl⟩
set_option maxRecDepth 100000 in
theorem k_X5_sumOf : q_oki iX5_sumOf := ⟨q_t 914 rfl rfl, q_s 74 rfl rfl, ⟨_, _, rfl⟩⟩
set_option maxRecDepth 100000 in
theorem m_X5_count : q_okm iX5_count 1 := ⟨q_t 911 rfl rfl, q_t 8 rfl rfl, ⟨by decide +kernel, by decide +kernel, by decide +kernel⟩, by decide +kernel, rfl⟩
set_option maxRecDepth 100000 in
theorem k_X5_count : q_oki iX5_count := ⟨q_t 909 rfl rfl, q_t 910 rfl rfl, ⟨_, _, rfl⟩⟩
set_option maxRecDepth 100000 in
theorem m_X5_digest : q_okm iX5_digest 0 := ⟨q_t 919 rfl rfl, q_t 8 rfl rfl, ⟨by decide +kernel, by decide +kernel, by decide +kernel⟩, by decide +kernel, rfl⟩
set_option maxRecDepth 100000 in
theorem k_X5_digest : q_oki iX5_digest := ⟨q_t 917 rfl rfl, q_t 918 rfl rfl, ⟨_, _, rfl⟩⟩
set_option maxRecDepth 100000 in
theorem m_J6_bitCount_0f7a4 : q_okm iJ6_bitCount_0f7a4 1 := ⟨q_t 355 rfl rfl, q_t 9 rfl rfl, ⟨by decide +kernel, by decide +kernel, by decide +kernel⟩, by decide +kernel, rfl⟩
set_option maxRecDepth 100000 in
theorem k_J6_bitCount_0f7a4 : Cond.static (mY iJ6_bitCount_0f7a4) ∈ q_tbl := q_t 354 rfl rfl
set_option maxRecDepth 100000 in
theorem m_J7_fill_53178 : q_okm iJ7_fill_53178 2 := ⟨q_t 98 rfl rfl, q_t 6 rfl rfl, ⟨by decide +kernel, by decide +kernel, by decide +kernel⟩, by decide +kernel, rfl⟩
set_option maxRecDepth 100000 in
theorem k_J7_fill_53178 : Cond.static (mY iJ7_fill_53178) ∈ q_tbl := q_t 97 rfl rfl
def q_okc (cn idx : Nat) (v : Nat × qI × Nat) : Prop := q_okm v.2.1 v.2.2 ∧ (v.1 ≤ 1 → Cond.static (mY v.2.1) ∈ q_tbl) ∧ (2 ≤ v.1 → q_oki v.2.1) ∧ (v.1 = 0 ∨ v.1 = 2 → Cond.methodLink (q_nm cn) idx (mY v.2.1) ∈ q_tbl) ∧ (v.1 = 0 ∨ v.1 = 2 ∨ (q_nm cn, idx, mY v.2.1) ∈ q_nM)
theorem q_okc0 {cn idx n : Nat} {I : qI} (hm : q_okm I n) (hs : Cond.static (mY I) ∈ q_tbl) (hl : Cond.methodLink (q_nm cn) idx (mY I) ∈ q_tbl) : q_okc cn idx (0, I, n) := ⟨hm, fun _ => hs, fun h => absurd h (show ¬ (2 ≤ 0) by decide), fun _ => hl, Or.inl rfl⟩
theorem q_okc2 {cn idx n : Nat} {I : qI} (hm : q_okm I n) (hs : q_oki I) (hl : Cond.methodLink (q_nm cn) idx (mY I) ∈ q_tbl) : q_okc cn idx (2, I, n) := ⟨hm, fun h => absurd h (show ¬ (2 ≤ 1) by decide), fun _ => hs, fun _ => hl, Or.inr (Or.inl rfl)⟩
theorem q_okc1 {cn idx n : Nat} {I : qI} (hm : q_okm I n) (hs : Cond.static (mY I) ∈ q_tbl) (hl : (q_nm cn, idx, mY I) ∈ q_nM) : q_okc cn idx (1, I, n) := ⟨hm, fun _ => hs, fun h => absurd h (show ¬ (2 ≤ 1) by decide), (fun h => (by rcases h with h | h <;> cases h)), Or.inr (Or.inr hl)⟩
theorem q_okc3 {cn idx n : Nat} {I : qI} (hm : q_okm I n) (hs : q_oki I) (hl : (q_nm cn, idx, mY I) ∈ q_nM) : q_okc cn idx (3, I, n) := ⟨hm, fun h => absurd h (show ¬ (3 ≤ 1) by decide), fun _ => hs, (fun h => (by rcases h with h | h <;> cases h)), Or.inr (Or.inr hl)⟩
set_option maxRecDepth 100000 in
theorem q_calls_0 : ∀ q ∈ q_calls 0, q_okc 0 q.1 q.2 := List.forall_mem_cons.mpr ⟨q_okc0 m_J7_fill_53178 k_J7_fill_53178 (q_t 482 rfl rfl), List.forall_mem_cons.mpr ⟨q_okc1 m_X4_lay k_X4_lay (List.mem_of_getElem? (i := 23) rfl), fun _ h => absurd h List.not_mem_nil⟩⟩
set_option maxRecDepth 100000 in
theorem q_calls_1 : ∀ q ∈ q_calls 1, q_okc 1 q.1 q.2 := List.forall_mem_cons.mpr ⟨q_okc1 m_X4_lay k_X4_lay (List.mem_of_getElem? (i := 16) rfl), List.forall_mem_cons.mpr ⟨q_okc1 m_X4_at k_X4_at (List.mem_of_getElem? (i := 13) rfl), fun _ h => absurd h List.not_mem_nil⟩⟩
set_option maxRecDepth 100000 in
theorem q_calls_2 : ∀ q ∈ q_calls 2, q_okc 2 q.1 q.2 := List.forall_mem_cons.mpr ⟨q_okc2 m_X2_hasRoom k_X2_hasRoom (q_t 181 rfl rfl), List.forall_mem_cons.mpr ⟨q_okc1 m_X4_lay k_X4_lay (List.mem_of_getElem? (i := 7) rfl), fun _ h => absurd h List.not_mem_nil⟩⟩
set_option maxRecDepth 100000 in
theorem q_calls_3 : ∀ q ∈ q_calls 3, q_okc 3 q.1 q.2 := List.forall_mem_cons.mpr ⟨q_okc1 m_X4_isWithin k_X4_isWithin (List.mem_of_getElem? (i := 18) rfl), List.forall_mem_cons.mpr ⟨q_okc2 m_X3_firstFault k_X3_firstFault (q_t 193 rfl rfl), List.forall_mem_cons.mpr ⟨q_okc0 m_J7_fill_53178 k_J7_fill_53178 (q_t 203 rfl rfl), List.forall_mem_cons.mpr ⟨q_okc1 m_X4_at k_X4_at (List.mem_of_getElem? (i := 9) rfl), List.forall_mem_cons.mpr ⟨q_okc1 m_X4_lay k_X4_lay (List.mem_of_getElem? (i := 11) rfl), List.forall_mem_cons.mpr ⟨q_okc1 m_X4_isLetter k_X4_isLetter (List.mem_of_getElem? (i := 10) rfl), fun _ h => absurd h List.not_mem_nil⟩⟩⟩⟩⟩⟩
set_option maxRecDepth 100000 in
theorem q_calls_4 : ∀ q ∈ q_calls 4, q_okc 4 q.1 q.2 := List.forall_mem_cons.mpr ⟨q_okc0 m_J7_fill_53178 k_J7_fill_53178 (q_t 96 rfl rfl), List.forall_mem_cons.mpr ⟨q_okc2 m_X4_textAt k_X4_textAt (q_t 166 rfl rfl), List.forall_mem_cons.mpr ⟨q_okc0 m_X4_isWithin k_X4_isWithin (q_t 170 rfl rfl), List.forall_mem_cons.mpr ⟨q_okc3 m_X2_hasRoom k_X2_hasRoom (List.mem_of_getElem? (i := 5) rfl), List.forall_mem_cons.mpr ⟨q_okc3 m_X2_append k_X2_append (List.mem_of_getElem? (i := 6) rfl), List.forall_mem_cons.mpr ⟨q_okc2 m_X4_layTexts k_X4_layTexts (q_t 185 rfl rfl), List.forall_mem_cons.mpr ⟨q_okc2 m_X4_pageFault k_X4_pageFault (q_t 209 rfl rfl), List.forall_mem_cons.mpr ⟨q_okc0 m_X4_isSign k_X4_isSign (q_t 237 rfl rfl), List.forall_mem_cons.mpr ⟨q_okc0 m_X4_at k_X4_at (q_t 213 rfl rfl), List.forall_mem_cons.mpr ⟨q_okc0 m_X4_lay k_X4_lay (q_t 224 rfl rfl), List.forall_mem_cons.mpr ⟨q_okc2 m_X4_layCells k_X4_layCells (q_t 205 rfl rfl), List.forall_mem_cons.mpr ⟨q_okc2 m_X4_sheetAt k_X4_sheetAt (q_t 244 rfl rfl), List.forall_mem_cons.mpr ⟨q_okc3 m_X0_isLost k_X0_isLost (List.mem_of_getElem? (i := 14) rfl), List.forall_mem_cons.mpr ⟨q_okc2 m_X4_find k_X4_find (q_t 252 rfl rfl), List.forall_mem_cons.mpr ⟨q_okc3 m_X1_add k_X1_add (List.mem_of_getElem? (i := 15) rfl), List.forall_mem_cons.mpr ⟨q_okc2 m_X4_isCell k_X4_isCell (q_t 281 rfl rfl), List.forall_mem_cons.mpr ⟨q_okc2 m_X4_readingOf k_X4_readingOf (q_t 289 rfl rfl), List.forall_mem_cons.mpr ⟨q_okc0 m_X4_swapColumns k_X4_swapColumns (q_t 301 rfl rfl), List.forall_mem_cons.mpr ⟨q_okc3 m_X3_has k_X3_has (List.mem_of_getElem? (i := 17) rfl), List.forall_mem_cons.mpr ⟨q_okc2 m_X4_wordsBothWays k_X4_wordsBothWays (q_t 317 rfl rfl), List.forall_mem_cons.mpr ⟨q_okc2 m_X4_wordFromBehind k_X4_wordFromBehind (q_t 321 rfl rfl), List.forall_mem_cons.mpr ⟨q_okc2 m_X4_costAt k_X4_costAt (q_t 345 rfl rfl), List.forall_mem_cons.mpr ⟨q_okc2 m_X4_cheapestAt k_X4_cheapestAt (q_t 363 rfl rfl), List.forall_mem_cons.mpr ⟨q_okc2 m_X4_bestLine k_X4_bestLine (q_t 375 rfl rfl), List.forall_mem_cons.mpr ⟨q_okc0 m_X4_isOnePointLess k_X4_isOnePointLess (q_t 390 rfl rfl), List.forall_mem_cons.mpr ⟨q_okc0 m_J6_bitCount_0f7a4 k_J6_bitCount_0f7a4 (q_t 353 rfl rfl), List.forall_mem_cons.mpr ⟨q_okc2 m_X4_isApartFromOthers k_X4_isApartFromOthers (q_t 397 rfl rfl), List.forall_mem_cons.mpr ⟨q_okc2 m_X4_freeSigns k_X4_freeSigns (q_t 405 rfl rfl), List.forall_mem_cons.mpr ⟨q_okc2 m_X4_shortened k_X4_shortened (q_t 409 rfl rfl), List.forall_mem_cons.mpr ⟨q_okc2 m_X4_savedBy k_X4_savedBy (q_t 417 rfl rfl), List.forall_mem_cons.mpr ⟨q_okc2 m_X4_lieTogether k_X4_lieTogether (q_t 425 rfl rfl), List.forall_mem_cons.mpr ⟨q_okc2 m_X4_firstClash k_X4_firstClash (q_t 433 rfl rfl), List.forall_mem_cons.mpr ⟨q_okc2 m_X4_skippedAt k_X4_skippedAt (q_t 445 rfl rfl), List.forall_mem_cons.mpr ⟨q_okc2 m_X4_skippedBy k_X4_skippedBy (q_t 449 rfl rfl), List.forall_mem_cons.mpr ⟨q_okc2 m_X4_wearDown k_X4_wearDown (q_t 457 rfl rfl), List.forall_mem_cons.mpr ⟨q_okc0 m_X4_pointsOf k_X4_pointsOf (q_t 468 rfl rfl), List.forall_mem_cons.mpr ⟨q_okc0 m_X4_isForm k_X4_isForm (q_t 475 rfl rfl), List.forall_mem_cons.mpr ⟨q_okc3 m_X0_renew k_X0_renew (List.mem_of_getElem? (i := 21) rfl), List.forall_mem_cons.mpr ⟨q_okc0 m_X4_itemFinding k_X4_itemFinding (q_t 491 rfl rfl), List.forall_mem_cons.mpr ⟨q_okc3 m_X0_store k_X0_store (List.mem_of_getElem? (i := 22) rfl), List.forall_mem_cons.mpr ⟨q_okc3 m_X0_hasStretch k_X0_hasStretch (List.mem_of_getElem? (i := 24) rfl), List.forall_mem_cons.mpr ⟨q_okc2 m_X4_cellsOfLetters k_X4_cellsOfLetters (q_t 523 rfl rfl), List.forall_mem_cons.mpr ⟨q_okc2 m_X4_count k_X4_count (q_t 532 rfl rfl), List.forall_mem_cons.mpr ⟨q_okc0 m_X4_mix k_X4_mix (q_t 533 rfl rfl), List.forall_mem_cons.mpr ⟨q_okc2 m_X4_fault k_X4_fault (q_t 537 rfl rfl), List.forall_mem_cons.mpr ⟨q_okc2 m_X4_judged k_X4_judged (q_t 538 rfl rfl), List.forall_mem_cons.mpr ⟨q_okc2 m_X4_mixCells k_X4_mixCells (q_t 539 rfl rfl), List.forall_mem_cons.mpr ⟨q_okc2 m_X4_mixWords k_X4_mixWords (q_t 548 rfl rfl), List.forall_mem_cons.mpr ⟨q_okc2 m_X4_both k_X4_both (q_t 552 rfl rfl), List.forall_mem_cons.mpr ⟨q_okc2 m_X4_line k_X4_line (q_t 555 rfl rfl), List.forall_mem_cons.mpr ⟨q_okc2 m_X4_slippery k_X4_slippery (q_t 556 rfl rfl), List.forall_mem_cons.mpr ⟨q_okc2 m_X4_better k_X4_better (q_t 557 rfl rfl), List.forall_mem_cons.mpr ⟨q_okc2 m_X4_shorts k_X4_shorts (q_t 558 rfl rfl), List.forall_mem_cons.mpr ⟨q_okc2 m_X4_whose k_X4_whose (q_t 559 rfl rfl), List.forall_mem_cons.mpr ⟨q_okc2 m_X4_wear k_X4_wear (q_t 560 rfl rfl), List.forall_mem_cons.mpr ⟨q_okc2 m_X4_cell k_X4_cell (q_t 543 rfl rfl), List.forall_mem_cons.mpr ⟨q_okc2 m_X4_letter k_X4_letter (q_t 544 rfl rfl), List.forall_mem_cons.mpr ⟨q_okc2 m_X4_wrong k_X4_wrong (q_t 545 rfl rfl), List.forall_mem_cons.mpr ⟨q_okc2 m_X4_meant k_X4_meant (q_t 546 rfl rfl), List.forall_mem_cons.mpr ⟨q_okc2 m_X4_within k_X4_within (q_t 547 rfl rfl), List.forall_mem_cons.mpr ⟨q_okc2 m_X4_fits k_X4_fits (q_t 553 rfl rfl), List.forall_mem_cons.mpr ⟨q_okc2 m_X4_under k_X4_under (q_t 554 rfl rfl), List.forall_mem_cons.mpr ⟨q_okc0 m_X4_isLetter k_X4_isLetter (q_t 214 rfl rfl), List.forall_mem_cons.mpr ⟨q_okc3 m_X3_split k_X3_split (List.mem_of_getElem? (i := 8) rfl), List.forall_mem_cons.mpr ⟨q_okc2 m_X4_printedAt k_X4_printedAt (q_t 215 rfl rfl), List.forall_mem_cons.mpr ⟨q_okc3 m_X1_pointsAt k_X1_pointsAt (List.mem_of_getElem? (i := 12) rfl), List.forall_mem_cons.mpr ⟨q_okc3 m_X3_letterOf k_X3_letterOf (List.mem_of_getElem? (i := 20) rfl), List.forall_mem_cons.mpr ⟨q_okc2 m_X4_isReadFromBehindAs k_X4_isReadFromBehindAs (q_t 325 rfl rfl), List.forall_mem_cons.mpr ⟨q_okc3 m_X3_lettersOf k_X3_lettersOf (List.mem_of_getElem? (i := 19) rfl), List.forall_mem_cons.mpr ⟨q_okc2 m_X4_signOf k_X4_signOf (q_t 333 rfl rfl), List.forall_mem_cons.mpr ⟨q_okc2 m_X4_hasCellsFor k_X4_hasCellsFor (q_t 349 rfl rfl), List.forall_mem_cons.mpr ⟨q_okc2 m_X4_bestBehindWord k_X4_bestBehindWord (q_t 379 rfl rfl), List.forall_mem_cons.mpr ⟨q_okc2 m_X4_mostSavingBut k_X4_mostSavingBut (q_t 413 rfl rfl), List.forall_mem_cons.mpr ⟨q_okc2 m_X4_nextRaised k_X4_nextRaised (q_t 461 rfl rfl), List.forall_mem_cons.mpr ⟨q_okc0 m_X4_withoutGreatestPoint k_X4_withoutGreatestPoint (q_t 465 rfl rfl), fun _ h => absurd h List.not_mem_nil⟩⟩⟩⟩⟩⟩⟩⟩⟩⟩⟩⟩⟩⟩⟩⟩⟩⟩⟩⟩⟩⟩⟩⟩⟩⟩⟩⟩⟩⟩⟩⟩⟩⟩⟩⟩⟩⟩⟩⟩⟩⟩⟩⟩⟩⟩⟩⟩⟩⟩⟩⟩⟩⟩⟩⟩⟩⟩⟩⟩⟩⟩⟩⟩⟩⟩⟩⟩⟩⟩⟩⟩⟩⟩⟩
set_option maxRecDepth 100000 in
theorem q_calls_5 : ∀ q ∈ q_calls 5, q_okc 5 q.1 q.2 := List.forall_mem_cons.mpr ⟨q_okc0 m_X5_in k_X5_in (q_t 648 rfl rfl), List.forall_mem_cons.mpr ⟨q_okc2 m_X5_letterAt k_X5_letterAt (q_t 667 rfl rfl), List.forall_mem_cons.mpr ⟨q_okc2 m_X5_readsPage k_X5_readsPage (q_t 663 rfl rfl), List.forall_mem_cons.mpr ⟨q_okc2 m_X5_readsWords k_X5_readsWords (q_t 671 rfl rfl), List.forall_mem_cons.mpr ⟨q_okc2 m_X5_faultOf k_X5_faultOf (q_t 659 rfl rfl), List.forall_mem_cons.mpr ⟨q_okc2 m_X5_reads k_X5_reads (q_t 714 rfl rfl), List.forall_mem_cons.mpr ⟨q_okc0 m_X5_isSheet k_X5_isSheet (q_t 683 rfl rfl), List.forall_mem_cons.mpr ⟨q_okc2 m_X5_meets k_X5_meets (q_t 686 rfl rfl), List.forall_mem_cons.mpr ⟨q_okc2 m_X5_signOf k_X5_signOf (q_t 722 rfl rfl), List.forall_mem_cons.mpr ⟨q_okc2 m_X5_isCell k_X5_isCell (q_t 710 rfl rfl), List.forall_mem_cons.mpr ⟨q_okc2 m_X5_cellOf k_X5_cellOf (q_t 718 rfl rfl), List.forall_mem_cons.mpr ⟨q_okc2 m_X5_readAs k_X5_readAs (q_t 730 rfl rfl), List.forall_mem_cons.mpr ⟨q_okc2 m_X5_judgedNow k_X5_judgedNow (q_t 738 rfl rfl), List.forall_mem_cons.mpr ⟨q_okc0 m_X5_turned k_X5_turned (q_t 750 rfl rfl), List.forall_mem_cons.mpr ⟨q_okc2 m_X5_wrongOf k_X5_wrongOf (q_t 746 rfl rfl), List.forall_mem_cons.mpr ⟨q_okc2 m_X5_bothOf k_X5_bothOf (q_t 765 rfl rfl), List.forall_mem_cons.mpr ⟨q_okc2 m_X5_bothAll k_X5_bothAll (q_t 761 rfl rfl), List.forall_mem_cons.mpr ⟨q_okc2 m_X5_isWord k_X5_isWord (q_t 769 rfl rfl), List.forall_mem_cons.mpr ⟨q_okc0 m_X5_ones k_X5_ones (q_t 781 rfl rfl), List.forall_mem_cons.mpr ⟨q_okc2 m_X5_fitsOf k_X5_fitsOf (q_t 777 rfl rfl), List.forall_mem_cons.mpr ⟨q_okc2 m_X5_meantOf k_X5_meantOf (q_t 788 rfl rfl), List.forall_mem_cons.mpr ⟨q_okc2 m_X5_withinOf k_X5_withinOf (q_t 796 rfl rfl), List.forall_mem_cons.mpr ⟨q_okc2 m_X5_lineOf k_X5_lineOf (q_t 804 rfl rfl), List.forall_mem_cons.mpr ⟨q_okc0 m_X5_isLess k_X5_isLess (q_t 816 rfl rfl), List.forall_mem_cons.mpr ⟨q_okc2 m_X5_slipperyNow k_X5_slipperyNow (q_t 812 rfl rfl), List.forall_mem_cons.mpr ⟨q_okc2 m_X5_betterOf k_X5_betterOf (q_t 823 rfl rfl), List.forall_mem_cons.mpr ⟨q_okc2 m_X5_freeSigns k_X5_freeSigns (q_t 835 rfl rfl), List.forall_mem_cons.mpr ⟨q_okc2 m_X5_shortsOf k_X5_shortsOf (q_t 831 rfl rfl), List.forall_mem_cons.mpr ⟨q_okc2 m_X5_underOf k_X5_underOf (q_t 843 rfl rfl), List.forall_mem_cons.mpr ⟨q_okc2 m_X5_clashOf k_X5_clashOf (q_t 851 rfl rfl), List.forall_mem_cons.mpr ⟨q_okc2 m_X5_whoseNow k_X5_whoseNow (q_t 863 rfl rfl), List.forall_mem_cons.mpr ⟨q_okc2 m_X5_wearOf k_X5_wearOf (q_t 871 rfl rfl), List.forall_mem_cons.mpr ⟨q_okc2 m_X5_lacks k_X5_lacks (q_t 887 rfl rfl), List.forall_mem_cons.mpr ⟨q_okc2 m_X5_keep k_X5_keep (q_t 891 rfl rfl), List.forall_mem_cons.mpr ⟨q_okc2 m_X5_sumOf k_X5_sumOf (q_t 912 rfl rfl), List.forall_mem_cons.mpr ⟨q_okc2 m_X5_count k_X5_count (q_t 922 rfl rfl), fun _ h => absurd h List.not_mem_nil⟩⟩⟩⟩⟩⟩⟩⟩⟩⟩⟩⟩⟩⟩⟩⟩⟩⟩⟩⟩⟩⟩⟩⟩⟩⟩⟩⟩⟩⟩⟩⟩⟩⟩⟩⟩
set_option maxRecDepth 100000 in
theorem q_calls_6 : ∀ q ∈ q_calls 6, q_okc 6 q.1 q.2 := List.forall_mem_cons.mpr ⟨q_okc2 m_X4_type k_X4_type (q_t 162 rfl rfl), List.forall_mem_cons.mpr ⟨q_okc2 m_X5_type k_X5_type (q_t 644 rfl rfl), List.forall_mem_cons.mpr ⟨q_okc2 m_X4_wipe k_X4_wipe (q_t 225 rfl rfl), List.forall_mem_cons.mpr ⟨q_okc2 m_X5_wipe k_X5_wipe (q_t 651 rfl rfl), List.forall_mem_cons.mpr ⟨q_okc2 m_X4_fault k_X4_fault (q_t 229 rfl rfl), List.forall_mem_cons.mpr ⟨q_okc2 m_X5_fault k_X5_fault (q_t 655 rfl rfl), List.forall_mem_cons.mpr ⟨q_okc2 m_X4_sign k_X4_sign (q_t 233 rfl rfl), List.forall_mem_cons.mpr ⟨q_okc2 m_X5_sign k_X5_sign (q_t 675 rfl rfl), List.forall_mem_cons.mpr ⟨q_okc2 m_X4_read k_X4_read (q_t 240 rfl rfl), List.forall_mem_cons.mpr ⟨q_okc2 m_X5_read k_X5_read (q_t 679 rfl rfl), List.forall_mem_cons.mpr ⟨q_okc2 m_X4_slip k_X4_slip (q_t 256 rfl rfl), List.forall_mem_cons.mpr ⟨q_okc2 m_X5_slip k_X5_slip (q_t 690 rfl rfl), List.forall_mem_cons.mpr ⟨q_okc2 m_X4_undo k_X4_undo (q_t 265 rfl rfl), List.forall_mem_cons.mpr ⟨q_okc2 m_X5_undo k_X5_undo (q_t 694 rfl rfl), List.forall_mem_cons.mpr ⟨q_okc2 m_X4_set k_X4_set (q_t 269 rfl rfl), List.forall_mem_cons.mpr ⟨q_okc2 m_X5_set k_X5_set (q_t 698 rfl rfl), List.forall_mem_cons.mpr ⟨q_okc2 m_X4_often k_X4_often (q_t 273 rfl rfl), List.forall_mem_cons.mpr ⟨q_okc2 m_X5_often k_X5_often (q_t 702 rfl rfl), List.forall_mem_cons.mpr ⟨q_okc2 m_X4_cell k_X4_cell (q_t 277 rfl rfl), List.forall_mem_cons.mpr ⟨q_okc2 m_X5_cell k_X5_cell (q_t 706 rfl rfl), List.forall_mem_cons.mpr ⟨q_okc2 m_X4_letter k_X4_letter (q_t 285 rfl rfl), List.forall_mem_cons.mpr ⟨q_okc2 m_X5_letter k_X5_letter (q_t 726 rfl rfl), List.forall_mem_cons.mpr ⟨q_okc2 m_X4_judged k_X4_judged (q_t 293 rfl rfl), List.forall_mem_cons.mpr ⟨q_okc2 m_X5_judged k_X5_judged (q_t 734 rfl rfl), List.forall_mem_cons.mpr ⟨q_okc2 m_X4_wrong k_X4_wrong (q_t 297 rfl rfl), List.forall_mem_cons.mpr ⟨q_okc2 m_X5_wrong k_X5_wrong (q_t 742 rfl rfl), List.forall_mem_cons.mpr ⟨q_okc2 m_X4_mirrored k_X4_mirrored (q_t 304 rfl rfl), List.forall_mem_cons.mpr ⟨q_okc2 m_X5_mirrored k_X5_mirrored (q_t 753 rfl rfl), List.forall_mem_cons.mpr ⟨q_okc2 m_X4_both k_X4_both (q_t 308 rfl rfl), List.forall_mem_cons.mpr ⟨q_okc2 m_X5_both k_X5_both (q_t 757 rfl rfl), List.forall_mem_cons.mpr ⟨q_okc2 m_X4_fits k_X4_fits (q_t 341 rfl rfl), List.forall_mem_cons.mpr ⟨q_okc2 m_X5_fits k_X5_fits (q_t 773 rfl rfl), List.forall_mem_cons.mpr ⟨q_okc2 m_X4_meant k_X4_meant (q_t 359 rfl rfl), List.forall_mem_cons.mpr ⟨q_okc2 m_X5_meant k_X5_meant (q_t 784 rfl rfl), List.forall_mem_cons.mpr ⟨q_okc2 m_X4_within k_X4_within (q_t 367 rfl rfl), List.forall_mem_cons.mpr ⟨q_okc2 m_X5_within k_X5_within (q_t 792 rfl rfl), List.forall_mem_cons.mpr ⟨q_okc2 m_X4_line k_X4_line (q_t 371 rfl rfl), List.forall_mem_cons.mpr ⟨q_okc2 m_X5_line k_X5_line (q_t 800 rfl rfl), List.forall_mem_cons.mpr ⟨q_okc2 m_X4_slippery k_X4_slippery (q_t 386 rfl rfl), List.forall_mem_cons.mpr ⟨q_okc2 m_X5_slippery k_X5_slippery (q_t 808 rfl rfl), List.forall_mem_cons.mpr ⟨q_okc2 m_X4_better k_X4_better (q_t 393 rfl rfl), List.forall_mem_cons.mpr ⟨q_okc2 m_X5_better k_X5_better (q_t 819 rfl rfl), List.forall_mem_cons.mpr ⟨q_okc2 m_X4_shorts k_X4_shorts (q_t 401 rfl rfl), List.forall_mem_cons.mpr ⟨q_okc2 m_X5_shorts k_X5_shorts (q_t 827 rfl rfl), List.forall_mem_cons.mpr ⟨q_okc2 m_X4_under k_X4_under (q_t 421 rfl rfl), List.forall_mem_cons.mpr ⟨q_okc2 m_X5_under k_X5_under (q_t 839 rfl rfl), List.forall_mem_cons.mpr ⟨q_okc2 m_X4_clash k_X4_clash (q_t 429 rfl rfl), List.forall_mem_cons.mpr ⟨q_okc2 m_X5_clash k_X5_clash (q_t 847 rfl rfl), List.forall_mem_cons.mpr ⟨q_okc2 m_X4_hand k_X4_hand (q_t 437 rfl rfl), List.forall_mem_cons.mpr ⟨q_okc2 m_X5_hand k_X5_hand (q_t 855 rfl rfl), List.forall_mem_cons.mpr ⟨q_okc2 m_X4_whose k_X4_whose (q_t 441 rfl rfl), List.forall_mem_cons.mpr ⟨q_okc2 m_X5_whose k_X5_whose (q_t 859 rfl rfl), List.forall_mem_cons.mpr ⟨q_okc2 m_X4_wear k_X4_wear (q_t 453 rfl rfl), List.forall_mem_cons.mpr ⟨q_okc2 m_X5_wear k_X5_wear (q_t 867 rfl rfl), List.forall_mem_cons.mpr ⟨q_okc2 m_X4_sheet k_X4_sheet (q_t 471 rfl rfl), List.forall_mem_cons.mpr ⟨q_okc2 m_X5_sheet k_X5_sheet (q_t 875 rfl rfl), List.forall_mem_cons.mpr ⟨q_okc2 m_X4_lose k_X4_lose (q_t 483 rfl rfl), List.forall_mem_cons.mpr ⟨q_okc2 m_X5_lose k_X5_lose (q_t 879 rfl rfl), List.forall_mem_cons.mpr ⟨q_okc2 m_X4_put k_X4_put (q_t 487 rfl rfl), List.forall_mem_cons.mpr ⟨q_okc2 m_X5_put k_X5_put (q_t 883 rfl rfl), List.forall_mem_cons.mpr ⟨q_okc2 m_X4_get k_X4_get (q_t 499 rfl rfl), List.forall_mem_cons.mpr ⟨q_okc2 m_X5_get k_X5_get (q_t 895 rfl rfl), List.forall_mem_cons.mpr ⟨q_okc2 m_X4_copy k_X4_copy (q_t 504 rfl rfl), List.forall_mem_cons.mpr ⟨q_okc2 m_X5_copy k_X5_copy (q_t 900 rfl rfl), List.forall_mem_cons.mpr ⟨q_okc2 m_X4_write k_X4_write (q_t 515 rfl rfl), List.forall_mem_cons.mpr ⟨q_okc2 m_X5_write k_X5_write (q_t 904 rfl rfl), List.forall_mem_cons.mpr ⟨q_okc2 m_X4_count k_X4_count (q_t 519 rfl rfl), List.forall_mem_cons.mpr ⟨q_okc2 m_X5_count k_X5_count (q_t 908 rfl rfl), List.forall_mem_cons.mpr ⟨q_okc2 m_X4_digest k_X4_digest (q_t 527 rfl rfl), List.forall_mem_cons.mpr ⟨q_okc2 m_X5_digest k_X5_digest (q_t 916 rfl rfl), fun _ h => absurd h List.not_mem_nil⟩⟩⟩⟩⟩⟩⟩⟩⟩⟩⟩⟩⟩⟩⟩⟩⟩⟩⟩⟩⟩⟩⟩⟩⟩⟩⟩⟩⟩⟩⟩⟩⟩⟩⟩⟩⟩⟩⟩⟩⟩⟩⟩⟩⟩⟩⟩⟩⟩⟩⟩⟩⟩⟩⟩⟩⟩⟩⟩⟩⟩⟩⟩⟩⟩⟩⟩⟩⟩⟩
theorem q_calls_ok (cn : Nat) : ∀ q ∈ q_calls cn, q_okc cn q.1 q.2 := match cn with
  | 0 => q_calls_0
  | 1 => q_calls_1
  | 2 => q_calls_2
  | 3 => q_calls_3
  | 4 => q_calls_4
  | 5 => q_calls_5
  | 6 => q_calls_6
  | 7 => fun _ h => absurd h List.not_mem_nil
  | 8 => fun _ h => absurd h List.not_mem_nil
  | 9 => fun _ h => absurd h List.not_mem_nil
  | _ + 10 => fun _ h => absurd h List.not_mem_nil
theorem q_look {β : Type} {l : List (Nat × β)} {i : Nat} {v : β} (h : l.lookup i = some v) : (i, v) ∈ l := by
  induction l with
  | nil => simp at h
  | cons a t ih =>
    obtain ⟨k, u⟩ := a
    by_cases hk : i = k
    · subst hk
      simp [List.lookup] at h
      subst h
      exact List.mem_cons_self
    · have hb : (i == k) = false := by simp [hk]
      rw [List.lookup, hb] at h
      exact List.mem_cons_of_mem _ (ih h)
theorem q_call_ok {cn idx : Nat} {v : Nat × qI × Nat} (h : q_call cn idx = some v) : q_okc cn idx v := q_calls_ok cn (idx, v) (q_look h)
def q_okf (cn idx : Nat) (v : Nat × Nat × Nat) : Prop := ∃ C T N, q_cl[v.2.1]? = some (C, T, N) ∧ v.2.2 < N ∧ (v.1 = 0 → Cond.fieldLink (q_nm cn) idx (T v.2.2).1 (T v.2.2).2.1 (T v.2.2).2.2.1 ∈ q_tbl) ∧ (v.1 = 0 ∨ (q_nm cn, idx, (T v.2.2).1, (T v.2.2).2.1, (T v.2.2).2.2.1) ∈ q_nF)
set_option maxRecDepth 100000 in
theorem q_flds_0 : ∀ q ∈ q_flds 0, q_okf 0 q.1 q.2 := List.forall_mem_cons.mpr ⟨⟨_, _, _, rfl, by decide, fun _ => q_t 106 rfl rfl, Or.inl rfl⟩, List.forall_mem_cons.mpr ⟨⟨_, _, _, rfl, by decide, fun _ => q_t 108 rfl rfl, Or.inl rfl⟩, List.forall_mem_cons.mpr ⟨⟨_, _, _, rfl, by decide, fun _ => q_t 110 rfl rfl, Or.inl rfl⟩, fun _ h => absurd h List.not_mem_nil⟩⟩⟩
set_option maxRecDepth 100000 in
theorem q_flds_1 : ∀ q ∈ q_flds 1, q_okf 1 q.1 q.2 := List.forall_mem_cons.mpr ⟨⟨_, _, _, rfl, by decide, fun _ => q_t 73 rfl rfl, Or.inl rfl⟩, List.forall_mem_cons.mpr ⟨⟨_, _, _, rfl, by decide, fun _ => q_t 74 rfl rfl, Or.inl rfl⟩, List.forall_mem_cons.mpr ⟨⟨_, _, _, rfl, by decide, fun _ => q_t 75 rfl rfl, Or.inl rfl⟩, List.forall_mem_cons.mpr ⟨⟨_, _, _, rfl, by decide, fun _ => q_t 76 rfl rfl, Or.inl rfl⟩, fun _ h => absurd h List.not_mem_nil⟩⟩⟩⟩
set_option maxRecDepth 100000 in
theorem q_flds_2 : ∀ q ∈ q_flds 2, q_okf 2 q.1 q.2 := List.forall_mem_cons.mpr ⟨⟨_, _, _, rfl, by decide, fun _ => q_t 28 rfl rfl, Or.inl rfl⟩, List.forall_mem_cons.mpr ⟨⟨_, _, _, rfl, by decide, fun _ => q_t 31 rfl rfl, Or.inl rfl⟩, fun _ h => absurd h List.not_mem_nil⟩⟩
set_option maxRecDepth 100000 in
theorem q_flds_3 : ∀ q ∈ q_flds 3, q_okf 3 q.1 q.2 := List.forall_mem_cons.mpr ⟨⟨_, _, _, rfl, by decide, fun _ => q_t 48 rfl rfl, Or.inl rfl⟩, List.forall_mem_cons.mpr ⟨⟨_, _, _, rfl, by decide, fun _ => q_t 50 rfl rfl, Or.inl rfl⟩, List.forall_mem_cons.mpr ⟨⟨_, _, _, rfl, by decide, fun _ => q_t 51 rfl rfl, Or.inl rfl⟩, List.forall_mem_cons.mpr ⟨⟨_, _, _, rfl, by decide, fun _ => q_t 54 rfl rfl, Or.inl rfl⟩, List.forall_mem_cons.mpr ⟨⟨_, _, _, rfl, by decide, fun _ => q_t 52 rfl rfl, Or.inl rfl⟩, List.forall_mem_cons.mpr ⟨⟨_, _, _, rfl, by decide, fun h => absurd h (by decide), Or.inr (List.mem_of_getElem? (i := 3) rfl)⟩, List.forall_mem_cons.mpr ⟨⟨_, _, _, rfl, by decide, fun h => absurd h (by decide), Or.inr (List.mem_of_getElem? (i := 0) rfl)⟩, fun _ h => absurd h List.not_mem_nil⟩⟩⟩⟩⟩⟩⟩
set_option maxRecDepth 100000 in
theorem q_flds_4 : ∀ q ∈ q_flds 4, q_okf 4 q.1 q.2 := List.forall_mem_cons.mpr ⟨⟨_, _, _, rfl, by decide, fun _ => q_t 119 rfl rfl, Or.inl rfl⟩, List.forall_mem_cons.mpr ⟨⟨_, _, _, rfl, by decide, fun _ => q_t 120 rfl rfl, Or.inl rfl⟩, List.forall_mem_cons.mpr ⟨⟨_, _, _, rfl, by decide, fun _ => q_t 121 rfl rfl, Or.inl rfl⟩, List.forall_mem_cons.mpr ⟨⟨_, _, _, rfl, by decide, fun _ => q_t 122 rfl rfl, Or.inl rfl⟩, List.forall_mem_cons.mpr ⟨⟨_, _, _, rfl, by decide, fun _ => q_t 123 rfl rfl, Or.inl rfl⟩, List.forall_mem_cons.mpr ⟨⟨_, _, _, rfl, by decide, fun _ => q_t 125 rfl rfl, Or.inl rfl⟩, List.forall_mem_cons.mpr ⟨⟨_, _, _, rfl, by decide, fun _ => q_t 126 rfl rfl, Or.inl rfl⟩, List.forall_mem_cons.mpr ⟨⟨_, _, _, rfl, by decide, fun _ => q_t 127 rfl rfl, Or.inl rfl⟩, List.forall_mem_cons.mpr ⟨⟨_, _, _, rfl, by decide, fun _ => q_t 128 rfl rfl, Or.inl rfl⟩, List.forall_mem_cons.mpr ⟨⟨_, _, _, rfl, by decide, fun _ => q_t 129 rfl rfl, Or.inl rfl⟩, List.forall_mem_cons.mpr ⟨⟨_, _, _, rfl, by decide, fun _ => q_t 131 rfl rfl, Or.inl rfl⟩, List.forall_mem_cons.mpr ⟨⟨_, _, _, rfl, by decide, fun _ => q_t 132 rfl rfl, Or.inl rfl⟩, List.forall_mem_cons.mpr ⟨⟨_, _, _, rfl, by decide, fun h => absurd h (by decide), Or.inr (List.mem_of_getElem? (i := 2) rfl)⟩, List.forall_mem_cons.mpr ⟨⟨_, _, _, rfl, by decide, fun h => absurd h (by decide), Or.inr (List.mem_of_getElem? (i := 6) rfl)⟩, List.forall_mem_cons.mpr ⟨⟨_, _, _, rfl, by decide, fun h => absurd h (by decide), Or.inr (List.mem_of_getElem? (i := 10) rfl)⟩, List.forall_mem_cons.mpr ⟨⟨_, _, _, rfl, by decide, fun h => absurd h (by decide), Or.inr (List.mem_of_getElem? (i := 8) rfl)⟩, List.forall_mem_cons.mpr ⟨⟨_, _, _, rfl, by decide, fun h => absurd h (by decide), Or.inr (List.mem_of_getElem? (i := 7) rfl)⟩, List.forall_mem_cons.mpr ⟨⟨_, _, _, rfl, by decide, fun _ => q_t 124 rfl rfl, Or.inl rfl⟩, List.forall_mem_cons.mpr ⟨⟨_, _, _, rfl, by decide, fun h => absurd h (by decide), Or.inr (List.mem_of_getElem? (i := 5) rfl)⟩, List.forall_mem_cons.mpr ⟨⟨_, _, _, rfl, by decide, fun _ => q_t 130 rfl rfl, Or.inl rfl⟩, List.forall_mem_cons.mpr ⟨⟨_, _, _, rfl, by decide, fun h => absurd h (by decide), Or.inr (List.mem_of_getElem? (i := 9) rfl)⟩, List.forall_mem_cons.mpr ⟨⟨_, _, _, rfl, by decide, fun h => absurd h (by decide), Or.inr (List.mem_of_getElem? (i := 4) rfl)⟩, List.forall_mem_cons.mpr ⟨⟨_, _, _, rfl, by decide, fun h => absurd h (by decide), Or.inr (List.mem_of_getElem? (i := 1) rfl)⟩, fun _ h => absurd h List.not_mem_nil⟩⟩⟩⟩⟩⟩⟩⟩⟩⟩⟩⟩⟩⟩⟩⟩⟩⟩⟩⟩⟩⟩⟩
set_option maxRecDepth 100000 in
theorem q_flds_5 : ∀ q ∈ q_flds 5, q_okf 5 q.1 q.2 := List.forall_mem_cons.mpr ⟨⟨_, _, _, rfl, by decide, fun _ => q_t 567 rfl rfl, Or.inl rfl⟩, List.forall_mem_cons.mpr ⟨⟨_, _, _, rfl, by decide, fun _ => q_t 568 rfl rfl, Or.inl rfl⟩, List.forall_mem_cons.mpr ⟨⟨_, _, _, rfl, by decide, fun _ => q_t 569 rfl rfl, Or.inl rfl⟩, List.forall_mem_cons.mpr ⟨⟨_, _, _, rfl, by decide, fun _ => q_t 571 rfl rfl, Or.inl rfl⟩, List.forall_mem_cons.mpr ⟨⟨_, _, _, rfl, by decide, fun _ => q_t 573 rfl rfl, Or.inl rfl⟩, List.forall_mem_cons.mpr ⟨⟨_, _, _, rfl, by decide, fun _ => q_t 574 rfl rfl, Or.inl rfl⟩, List.forall_mem_cons.mpr ⟨⟨_, _, _, rfl, by decide, fun _ => q_t 577 rfl rfl, Or.inl rfl⟩, List.forall_mem_cons.mpr ⟨⟨_, _, _, rfl, by decide, fun _ => q_t 579 rfl rfl, Or.inl rfl⟩, List.forall_mem_cons.mpr ⟨⟨_, _, _, rfl, by decide, fun _ => q_t 580 rfl rfl, Or.inl rfl⟩, List.forall_mem_cons.mpr ⟨⟨_, _, _, rfl, by decide, fun _ => q_t 581 rfl rfl, Or.inl rfl⟩, List.forall_mem_cons.mpr ⟨⟨_, _, _, rfl, by decide, fun _ => q_t 582 rfl rfl, Or.inl rfl⟩, List.forall_mem_cons.mpr ⟨⟨_, _, _, rfl, by decide, fun _ => q_t 583 rfl rfl, Or.inl rfl⟩, List.forall_mem_cons.mpr ⟨⟨_, _, _, rfl, by decide, fun _ => q_t 584 rfl rfl, Or.inl rfl⟩, List.forall_mem_cons.mpr ⟨⟨_, _, _, rfl, by decide, fun _ => q_t 585 rfl rfl, Or.inl rfl⟩, List.forall_mem_cons.mpr ⟨⟨_, _, _, rfl, by decide, fun _ => q_t 586 rfl rfl, Or.inl rfl⟩, List.forall_mem_cons.mpr ⟨⟨_, _, _, rfl, by decide, fun _ => q_t 587 rfl rfl, Or.inl rfl⟩, List.forall_mem_cons.mpr ⟨⟨_, _, _, rfl, by decide, fun _ => q_t 588 rfl rfl, Or.inl rfl⟩, List.forall_mem_cons.mpr ⟨⟨_, _, _, rfl, by decide, fun _ => q_t 589 rfl rfl, Or.inl rfl⟩, List.forall_mem_cons.mpr ⟨⟨_, _, _, rfl, by decide, fun _ => q_t 590 rfl rfl, Or.inl rfl⟩, List.forall_mem_cons.mpr ⟨⟨_, _, _, rfl, by decide, fun _ => q_t 575 rfl rfl, Or.inl rfl⟩, List.forall_mem_cons.mpr ⟨⟨_, _, _, rfl, by decide, fun _ => q_t 576 rfl rfl, Or.inl rfl⟩, List.forall_mem_cons.mpr ⟨⟨_, _, _, rfl, by decide, fun _ => q_t 570 rfl rfl, Or.inl rfl⟩, List.forall_mem_cons.mpr ⟨⟨_, _, _, rfl, by decide, fun _ => q_t 572 rfl rfl, Or.inl rfl⟩, List.forall_mem_cons.mpr ⟨⟨_, _, _, rfl, by decide, fun _ => q_t 578 rfl rfl, Or.inl rfl⟩, List.forall_mem_cons.mpr ⟨⟨_, _, _, rfl, by decide, fun _ => q_t 591 rfl rfl, Or.inl rfl⟩, fun _ h => absurd h List.not_mem_nil⟩⟩⟩⟩⟩⟩⟩⟩⟩⟩⟩⟩⟩⟩⟩⟩⟩⟩⟩⟩⟩⟩⟩⟩⟩
theorem q_flds_ok (cn : Nat) : ∀ q ∈ q_flds cn, q_okf cn q.1 q.2 := match cn with
  | 0 => q_flds_0
  | 1 => q_flds_1
  | 2 => q_flds_2
  | 3 => q_flds_3
  | 4 => q_flds_4
  | 5 => q_flds_5
  | 6 => fun _ h => absurd h List.not_mem_nil
  | 7 => fun _ h => absurd h List.not_mem_nil
  | 8 => fun _ h => absurd h List.not_mem_nil
  | 9 => fun _ h => absurd h List.not_mem_nil
  | _ + 10 => fun _ h => absurd h List.not_mem_nil
theorem q_fl_ok {cn idx : Nat} {v : Nat × Nat × Nat} (h : q_fl cn idx = some v) : q_okf cn idx v := q_flds_ok cn (idx, v) (q_look h)
set_option maxRecDepth 100000 in
theorem q_ldc_ok {cn idx : Nat} {v : Int32} (h : q_ldc cn idx = some v) : Cond.constant (q_nm cn) idx v ∈ q_tbl := by
  unfold q_ldc at h
  split at h
  · cases h; exact q_t 356 rfl rfl
  · cases h; exact q_t 357 rfl rfl
  · cases h; exact q_t 358 rfl rfl
  · cases h; exact q_t 503 rfl rfl
  · cases h; exact q_t 899 rfl rfl
  · cases h
set_option maxRecDepth 100000 in
theorem q_ldl_ok {cn idx : Nat} {v : Int64} (h : q_ldl cn idx = some v) : Cond.constantLong (q_nm cn) idx v ∈ q_tbl := by
  unfold q_ldl at h
  split at h
  · cases h; exact q_t 531 rfl rfl
  · cases h; exact q_t 536 rfl rfl
  · cases h; exact q_t 920 rfl rfl
  · cases h; exact q_t 921 rfl rfl
  · cases h
theorem q_wr_ok {ci j : Nat} (h : q_wr ci j = true) : ∀ C T N, q_cl[ci]? = some (C, T, N) → (T j).2.2.2 = false ∧ (T j).2.2.1 = "I" := by
  intro C T N hc
  unfold q_wr at h
  split at h
  · cases hc; exact ⟨rfl, rfl⟩
  · cases hc; exact ⟨rfl, rfl⟩
  · cases hc; exact ⟨rfl, rfl⟩
  · cases hc; exact ⟨rfl, rfl⟩
  · cases hc; exact ⟨rfl, rfl⟩
  · cases hc; exact ⟨rfl, rfl⟩
  · cases hc; exact ⟨rfl, rfl⟩
  · cases hc; exact ⟨rfl, rfl⟩
  · cases hc; exact ⟨rfl, rfl⟩
  · cases hc; exact ⟨rfl, rfl⟩
  · cases hc; exact ⟨rfl, rfl⟩
  · cases hc; exact ⟨rfl, rfl⟩
  · cases hc; exact ⟨rfl, rfl⟩
  · cases hc; exact ⟨rfl, rfl⟩
  · cases hc; exact ⟨rfl, rfl⟩
  · cases hc; exact ⟨rfl, rfl⟩
  · cases h
def q_okk (C : String) (T : u_T) (N : Nat) : Prop := (∀ w ∈ u_ws C T N, w ∈ q_tbl) ∧ (∃ ty0 : Nat → FieldType, ∀ k, k < N → parseFieldDescriptor (T k).2.2.1 = some (ty0 k)) ∧ (∀ a, a < N → ∀ b, b < N → a ≠ b → (T a).2.1 ≠ (T b).2.1)
set_option maxRecDepth 100000 in
theorem q_ws_0 : ∀ w ∈ u_ws RX0 TX0 3, w ∈ q_tbl := List.forall_mem_cons.mpr ⟨q_t 112 rfl rfl, List.forall_mem_cons.mpr ⟨q_t 114 rfl rfl, List.forall_mem_cons.mpr ⟨q_t 116 rfl rfl, fun _ h => absurd h List.not_mem_nil⟩⟩⟩
set_option maxRecDepth 100000 in
theorem q_ws_1 : ∀ w ∈ u_ws RX1 TX1 4, w ∈ q_tbl := List.forall_mem_cons.mpr ⟨q_t 78 rfl rfl, List.forall_mem_cons.mpr ⟨q_t 80 rfl rfl, List.forall_mem_cons.mpr ⟨q_t 82 rfl rfl, List.forall_mem_cons.mpr ⟨q_t 84 rfl rfl, fun _ h => absurd h List.not_mem_nil⟩⟩⟩⟩
set_option maxRecDepth 100000 in
theorem q_ws_2 : ∀ w ∈ u_ws RX2 TX2 2, w ∈ q_tbl := List.forall_mem_cons.mpr ⟨q_t 34 rfl rfl, List.forall_mem_cons.mpr ⟨q_t 36 rfl rfl, fun _ h => absurd h List.not_mem_nil⟩⟩
set_option maxRecDepth 100000 in
theorem q_ws_3 : ∀ w ∈ u_ws RX3 TX3 5, w ∈ q_tbl := List.forall_mem_cons.mpr ⟨q_t 56 rfl rfl, List.forall_mem_cons.mpr ⟨q_t 58 rfl rfl, List.forall_mem_cons.mpr ⟨q_t 60 rfl rfl, List.forall_mem_cons.mpr ⟨q_t 62 rfl rfl, List.forall_mem_cons.mpr ⟨q_t 64 rfl rfl, fun _ h => absurd h List.not_mem_nil⟩⟩⟩⟩⟩
set_option maxRecDepth 100000 in
theorem q_ws_4 : ∀ w ∈ u_ws RX4 TX4 14, w ∈ q_tbl := List.forall_mem_cons.mpr ⟨q_t 133 rfl rfl, List.forall_mem_cons.mpr ⟨q_t 135 rfl rfl, List.forall_mem_cons.mpr ⟨q_t 137 rfl rfl, List.forall_mem_cons.mpr ⟨q_t 139 rfl rfl, List.forall_mem_cons.mpr ⟨q_t 141 rfl rfl, List.forall_mem_cons.mpr ⟨q_t 143 rfl rfl, List.forall_mem_cons.mpr ⟨q_t 145 rfl rfl, List.forall_mem_cons.mpr ⟨q_t 147 rfl rfl, List.forall_mem_cons.mpr ⟨q_t 149 rfl rfl, List.forall_mem_cons.mpr ⟨q_t 151 rfl rfl, List.forall_mem_cons.mpr ⟨q_t 153 rfl rfl, List.forall_mem_cons.mpr ⟨q_t 155 rfl rfl, List.forall_mem_cons.mpr ⟨q_t 157 rfl rfl, List.forall_mem_cons.mpr ⟨q_t 159 rfl rfl, fun _ h => absurd h List.not_mem_nil⟩⟩⟩⟩⟩⟩⟩⟩⟩⟩⟩⟩⟩⟩
set_option maxRecDepth 100000 in
theorem q_ws_5 : ∀ w ∈ u_ws RX5 TX5 25, w ∈ q_tbl := List.forall_mem_cons.mpr ⟨q_t 592 rfl rfl, List.forall_mem_cons.mpr ⟨q_t 594 rfl rfl, List.forall_mem_cons.mpr ⟨q_t 596 rfl rfl, List.forall_mem_cons.mpr ⟨q_t 598 rfl rfl, List.forall_mem_cons.mpr ⟨q_t 600 rfl rfl, List.forall_mem_cons.mpr ⟨q_t 602 rfl rfl, List.forall_mem_cons.mpr ⟨q_t 604 rfl rfl, List.forall_mem_cons.mpr ⟨q_t 606 rfl rfl, List.forall_mem_cons.mpr ⟨q_t 608 rfl rfl, List.forall_mem_cons.mpr ⟨q_t 610 rfl rfl, List.forall_mem_cons.mpr ⟨q_t 612 rfl rfl, List.forall_mem_cons.mpr ⟨q_t 614 rfl rfl, List.forall_mem_cons.mpr ⟨q_t 616 rfl rfl, List.forall_mem_cons.mpr ⟨q_t 618 rfl rfl, List.forall_mem_cons.mpr ⟨q_t 620 rfl rfl, List.forall_mem_cons.mpr ⟨q_t 622 rfl rfl, List.forall_mem_cons.mpr ⟨q_t 624 rfl rfl, List.forall_mem_cons.mpr ⟨q_t 626 rfl rfl, List.forall_mem_cons.mpr ⟨q_t 628 rfl rfl, List.forall_mem_cons.mpr ⟨q_t 630 rfl rfl, List.forall_mem_cons.mpr ⟨q_t 632 rfl rfl, List.forall_mem_cons.mpr ⟨q_t 634 rfl rfl, List.forall_mem_cons.mpr ⟨q_t 636 rfl rfl, List.forall_mem_cons.mpr ⟨q_t 638 rfl rfl, List.forall_mem_cons.mpr ⟨q_t 640 rfl rfl, fun _ h => absurd h List.not_mem_nil⟩⟩⟩⟩⟩⟩⟩⟩⟩⟩⟩⟩⟩⟩⟩⟩⟩⟩⟩⟩⟩⟩⟩⟩⟩
theorem q_cl_ok {ci : Nat} {C : String} {T : u_T} {N : Nat} (h : q_cl[ci]? = some (C, T, N)) : q_okk C T N := by
  match ci, h with
  | 0, h => cases h; exact ⟨q_ws_0, ⟨_, tyX0_ok⟩, nmX0⟩
  | 1, h => cases h; exact ⟨q_ws_1, ⟨_, tyX1_ok⟩, nmX1⟩
  | 2, h => cases h; exact ⟨q_ws_2, ⟨_, tyX2_ok⟩, nmX2⟩
  | 3, h => cases h; exact ⟨q_ws_3, ⟨_, tyX3_ok⟩, nmX3⟩
  | 4, h => cases h; exact ⟨q_ws_4, ⟨_, tyX4_ok⟩, nmX4⟩
  | 5, h => cases h; exact ⟨q_ws_5, ⟨_, tyX5_ok⟩, nmX5⟩
  | k + 6, h => simp [q_cl] at h
set_option maxRecDepth 100000 in
theorem q_mnw : Cond.methodLink (q_nm 4) 248 Lib.Math.min.name ∈ q_tbl ∧ Cond.static Lib.Math.min.name ∈ q_tbl ∧ Cond.initialized "java/lang/Math" ∈ q_tbl ∧ Cond.code Lib.Math.min.name Lib.Math.min.code 2 (some .int) ∈ q_tbl := ⟨q_t 383 rfl rfl, q_t 384 rfl rfl, q_t 3 rfl rfl, q_t 385 rfl rfl⟩
set_option maxRecDepth 100000 in
theorem q_acw : Cond.methodLink (q_nm 4) 242 arraycopyName ∈ q_tbl ∧ Cond.native arraycopyName ∈ q_tbl ∧ Cond.static arraycopyName ∈ q_tbl ∧ Cond.initialized "java/lang/System" ∈ q_tbl := ⟨q_t 512 rfl rfl, q_t 514 rfl rfl, q_t 513 rfl rfl, q_t 10 rfl rfl⟩
