theorem mX0_init : MOK yX0_init cX0_init 1 none 0 := ⟨mT1 (i := 2) (by decide +kernel) rfl, mT1 (i := 34) (by decide +kernel) rfl, by decide +kernel, by decide +kernel⟩
theorem mX0_openColumns : MOK yX0_openColumns cX0_openColumns 1 (some .int) 0 := ⟨mT1 (i := 2) (by decide +kernel) rfl, mT3 (i := 187) (by decide +kernel) rfl, by decide +kernel, by decide +kernel⟩
theorem vX0_openColumns : VOK yX0_openColumns := ⟨mT3 (i := 185) (by decide +kernel) rfl, mT3 (i := 186) (by decide +kernel) rfl⟩
theorem mX0_isStriped : MOK yX0_isStriped cX0_isStriped 1 (some .boolean) 0 := ⟨mT1 (i := 2) (by decide +kernel) rfl, mT4 (i := 124) (by decide +kernel) rfl, by decide +kernel, by decide +kernel⟩
theorem vX0_isStriped : VOK yX0_isStriped := ⟨mT4 (i := 122) (by decide +kernel) rfl, mT4 (i := 123) (by decide +kernel) rfl⟩
theorem mX0_remainder : MOK yX0_remainder cX0_remainder 2 (some .int) 1 := ⟨mT1 (i := 2) (by decide +kernel) rfl, mT3 (i := 194) (by decide +kernel) rfl, by decide +kernel, by decide +kernel⟩
theorem vX0_remainder : VOK yX0_remainder := ⟨mT3 (i := 192) (by decide +kernel) rfl, mT3 (i := 193) (by decide +kernel) rfl⟩
theorem mX0_opposite : MOK yX0_opposite cX0_opposite 2 (some .int) 1 := ⟨mT1 (i := 2) (by decide +kernel) rfl, mT1 (i := 202) (by decide +kernel) rfl, by decide +kernel, by decide +kernel⟩
theorem vX0_opposite : VOK yX0_opposite := ⟨mT1 (i := 200) (by decide +kernel) rfl, mT1 (i := 201) (by decide +kernel) rfl⟩
theorem mX0_foldOrOpen : MOK yX0_foldOrOpen cX0_foldOrOpen 2 none 1 := ⟨mT1 (i := 2) (by decide +kernel) rfl, mT2 (i := 144) (by decide +kernel) rfl, by decide +kernel, by decide +kernel⟩
theorem vX0_foldOrOpen : VOK yX0_foldOrOpen := ⟨mT2 (i := 142) (by decide +kernel) rfl, mT2 (i := 143) (by decide +kernel) rfl⟩
theorem mX0_isTold : MOK yX0_isTold cX0_isTold 3 (some .boolean) 2 := ⟨mT1 (i := 2) (by decide +kernel) rfl, mT2 (i := 182) (by decide +kernel) rfl, by decide +kernel, by decide +kernel⟩
theorem vX0_isTold : VOK yX0_isTold := ⟨mT2 (i := 180) (by decide +kernel) rfl, mT2 (i := 181) (by decide +kernel) rfl⟩
theorem mX0_tell : MOK yX0_tell cX0_tell 3 none 2 := ⟨mT1 (i := 2) (by decide +kernel) rfl, mT2 (i := 187) (by decide +kernel) rfl, by decide +kernel, by decide +kernel⟩
theorem vX0_tell : VOK yX0_tell := ⟨mT2 (i := 185) (by decide +kernel) rfl, mT2 (i := 186) (by decide +kernel) rfl⟩
theorem mX0_forgetFlaws : MOK yX0_forgetFlaws cX0_forgetFlaws 1 none 0 := ⟨mT1 (i := 2) (by decide +kernel) rfl, mT1 (i := 183) (by decide +kernel) rfl, by decide +kernel, by decide +kernel⟩
theorem vX0_forgetFlaws : VOK yX0_forgetFlaws := ⟨mT1 (i := 181) (by decide +kernel) rfl, mT1 (i := 182) (by decide +kernel) rfl⟩
theorem mX0_spoilRows : MOK yX0_spoilRows cX0_spoilRows 3 none 0 := ⟨mT1 (i := 2) (by decide +kernel) rfl, mT1 (i := 188) (by decide +kernel) rfl, by decide +kernel, by decide +kernel⟩
theorem vX0_spoilRows : VOK yX0_spoilRows := ⟨mT1 (i := 187) (by decide +kernel) rfl, mT0 (i := 0) (by decide +kernel) rfl⟩
theorem mX0_reversed : MOK yX0_reversed cX0_reversed 4 (some .int) 1 := ⟨mT1 (i := 2) (by decide +kernel) rfl, mT1 (i := 195) (by decide +kernel) rfl, by decide +kernel, by decide +kernel⟩
theorem vX0_reversed : VOK yX0_reversed := ⟨mT1 (i := 194) (by decide +kernel) rfl, mT0 (i := 1) (by decide +kernel) rfl⟩
theorem mX0_reaches : MOK yX0_reaches cX0_reaches 4 (some .boolean) 3 := ⟨mT1 (i := 2) (by decide +kernel) rfl, mT3 (i := 182) (by decide +kernel) rfl, by decide +kernel, by decide +kernel⟩
theorem vX0_reaches : VOK yX0_reaches := ⟨mT3 (i := 180) (by decide +kernel) rfl, mT3 (i := 181) (by decide +kernel) rfl⟩
theorem mX1_init : MOK yX1_init cX1_init 2 none 0 := ⟨mT1 (i := 3) (by decide +kernel) rfl, mT1 (i := 70) (by decide +kernel) rfl, by decide +kernel, by decide +kernel⟩
theorem mX1_isFull : MOK yX1_isFull cX1_isFull 1 (some .boolean) 0 := ⟨mT1 (i := 3) (by decide +kernel) rfl, mT3 (i := 206) (by decide +kernel) rfl, by decide +kernel, by decide +kernel⟩
theorem vX1_isFull : VOK yX1_isFull := ⟨mT3 (i := 204) (by decide +kernel) rfl, mT3 (i := 205) (by decide +kernel) rfl⟩
theorem mX1_pieceIn : MOK yX1_pieceIn cX1_pieceIn 2 (some (.object "CuttingRoom$Piece")) 1 := ⟨mT1 (i := 3) (by decide +kernel) rfl, mT1 (i := 238) (by decide +kernel) rfl, by decide +kernel, by decide +kernel⟩
theorem vX1_pieceIn : VOK yX1_pieceIn := ⟨mT1 (i := 237) (by decide +kernel) rfl, mT0 (i := 2) (by decide +kernel) rfl⟩
theorem mX1_slotOf : MOK yX1_slotOf cX1_slotOf 4 (some .int) 1 := ⟨mT1 (i := 3) (by decide +kernel) rfl, mT4 (i := 41) (by decide +kernel) rfl, by decide +kernel, by decide +kernel⟩
theorem vX1_slotOf : VOK yX1_slotOf := ⟨mT4 (i := 40) (by decide +kernel) rfl, mT0 (i := 17) (by decide +kernel) rfl⟩
theorem mX1_pieceNumbered : MOK yX1_pieceNumbered cX1_pieceNumbered 2 (some (.object "CuttingRoom$Piece")) 1 := ⟨mT1 (i := 3) (by decide +kernel) rfl, mT4 (i := 37) (by decide +kernel) rfl, by decide +kernel, by decide +kernel⟩
theorem vX1_pieceNumbered : VOK yX1_pieceNumbered := ⟨mT4 (i := 35) (by decide +kernel) rfl, mT4 (i := 36) (by decide +kernel) rfl⟩
theorem mX1_obstacle : MOK yX1_obstacle cX1_obstacle 8 (some .char) 6 := ⟨mT1 (i := 3) (by decide +kernel) rfl, mT3 (i := 166) (by decide +kernel) rfl, by decide +kernel, by decide +kernel⟩
theorem vX1_obstacle : VOK yX1_obstacle := ⟨mT3 (i := 164) (by decide +kernel) rfl, mT3 (i := 165) (by decide +kernel) rfl⟩
theorem mX1_meetsAny : MOK yX1_meetsAny cX1_meetsAny 5 (some .boolean) 4 := ⟨mT1 (i := 3) (by decide +kernel) rfl, mT3 (i := 190) (by decide +kernel) rfl, by decide +kernel, by decide +kernel⟩
theorem sX1_meetsAny : Cond.static yX1_meetsAny ∈ GW := mT3 (i := 189) (by decide +kernel) rfl
theorem mX1_stripesMeet : MOK yX1_stripesMeet cX1_stripesMeet 3 (some .boolean) 2 := ⟨mT1 (i := 3) (by decide +kernel) rfl, mT3 (i := 201) (by decide +kernel) rfl, by decide +kernel, by decide +kernel⟩
theorem vX1_stripesMeet : VOK yX1_stripesMeet := ⟨mT3 (i := 200) (by decide +kernel) rfl, mT0 (i := 13) (by decide +kernel) rfl⟩
theorem mX1_firstSpot : MOK yX1_firstSpot cX1_firstSpot 8 (some .int) 3 := ⟨mT1 (i := 3) (by decide +kernel) rfl, mT3 (i := 239) (by decide +kernel) rfl, by decide +kernel, by decide +kernel⟩
theorem vX1_firstSpot : VOK yX1_firstSpot := ⟨mT3 (i := 237) (by decide +kernel) rfl, mT3 (i := 238) (by decide +kernel) rfl⟩
theorem mX1_putAtSpot : MOK yX1_putAtSpot cX1_putAtSpot 6 (some .int) 4 := ⟨mT1 (i := 3) (by decide +kernel) rfl, mT4 (i := 21) (by decide +kernel) rfl, by decide +kernel, by decide +kernel⟩
theorem vX1_putAtSpot : VOK yX1_putAtSpot := ⟨mT4 (i := 19) (by decide +kernel) rfl, mT4 (i := 20) (by decide +kernel) rfl⟩
theorem mX1_put : MOK yX1_put cX1_put 9 (some .int) 6 := ⟨mT1 (i := 3) (by decide +kernel) rfl, mT3 (i := 211) (by decide +kernel) rfl, by decide +kernel, by decide +kernel⟩
theorem vX1_put : VOK yX1_put := ⟨mT3 (i := 209) (by decide +kernel) rfl, mT3 (i := 210) (by decide +kernel) rfl⟩
theorem mX1_cover : MOK yX1_cover cX1_cover 9 none 4 := ⟨mT1 (i := 3) (by decide +kernel) rfl, mT3 (i := 215) (by decide +kernel) rfl, by decide +kernel, by decide +kernel⟩
theorem vX1_cover : VOK yX1_cover := ⟨mT3 (i := 214) (by decide +kernel) rfl, mT0 (i := 14) (by decide +kernel) rfl⟩
theorem mX1_join : MOK yX1_join cX1_join 3 none 2 := ⟨mT1 (i := 3) (by decide +kernel) rfl, mT3 (i := 220) (by decide +kernel) rfl, by decide +kernel, by decide +kernel⟩
theorem vX1_join : VOK yX1_join := ⟨mT3 (i := 219) (by decide +kernel) rfl, mT0 (i := 15) (by decide +kernel) rfl⟩
theorem mX1_leave : MOK yX1_leave cX1_leave 2 none 1 := ⟨mT1 (i := 3) (by decide +kernel) rfl, mT4 (i := 50) (by decide +kernel) rfl, by decide +kernel, by decide +kernel⟩
theorem vX1_leave : VOK yX1_leave := ⟨mT4 (i := 49) (by decide +kernel) rfl, mT0 (i := 18) (by decide +kernel) rfl⟩
theorem mX1_remove : MOK yX1_remove cX1_remove 4 none 1 := ⟨mT1 (i := 3) (by decide +kernel) rfl, mT4 (i := 46) (by decide +kernel) rfl, by decide +kernel, by decide +kernel⟩
theorem vX1_remove : VOK yX1_remove := ⟨mT4 (i := 44) (by decide +kernel) rfl, mT4 (i := 45) (by decide +kernel) rfl⟩
theorem mX1_moveToEnd : MOK yX1_moveToEnd cX1_moveToEnd 4 none 1 := ⟨mT1 (i := 3) (by decide +kernel) rfl, mT4 (i := 54) (by decide +kernel) rfl, by decide +kernel, by decide +kernel⟩
theorem vX1_moveToEnd : VOK yX1_moveToEnd := ⟨mT4 (i := 53) (by decide +kernel) rfl, mT0 (i := 19) (by decide +kernel) rfl⟩
theorem mX1_empty : MOK yX1_empty cX1_empty 1 none 0 := ⟨mT1 (i := 3) (by decide +kernel) rfl, mT1 (i := 213) (by decide +kernel) rfl, by decide +kernel, by decide +kernel⟩
theorem vX1_empty : VOK yX1_empty := ⟨mT1 (i := 211) (by decide +kernel) rfl, mT1 (i := 212) (by decide +kernel) rfl⟩
theorem mX1_ownerOf : MOK yX1_ownerOf cX1_ownerOf 4 (some .int) 2 := ⟨mT1 (i := 3) (by decide +kernel) rfl, mT2 (i := 161) (by decide +kernel) rfl, by decide +kernel, by decide +kernel⟩
theorem vX1_ownerOf : VOK yX1_ownerOf := ⟨mT2 (i := 159) (by decide +kernel) rfl, mT2 (i := 160) (by decide +kernel) rfl⟩
theorem mX1_ownerByPieces : MOK yX1_ownerByPieces cX1_ownerByPieces 5 (some .int) 2 := ⟨mT1 (i := 3) (by decide +kernel) rfl, mT4 (i := 103) (by decide +kernel) rfl, by decide +kernel, by decide +kernel⟩
theorem vX1_ownerByPieces : VOK yX1_ownerByPieces := ⟨mT4 (i := 101) (by decide +kernel) rfl, mT4 (i := 102) (by decide +kernel) rfl⟩
theorem mX1_holds : MOK yX1_holds cX1_holds 2 (some .boolean) 1 := ⟨mT1 (i := 3) (by decide +kernel) rfl, mT3 (i := 94) (by decide +kernel) rfl, by decide +kernel, by decide +kernel⟩
theorem vX1_holds : VOK yX1_holds := ⟨mT3 (i := 92) (by decide +kernel) rfl, mT3 (i := 93) (by decide +kernel) rfl⟩
theorem mX1_countOf : MOK yX1_countOf cX1_countOf 6 (some .int) 2 := ⟨mT1 (i := 3) (by decide +kernel) rfl, mT3 (i := 98) (by decide +kernel) rfl, by decide +kernel, by decide +kernel⟩
theorem vX1_countOf : VOK yX1_countOf := ⟨mT3 (i := 96) (by decide +kernel) rfl, mT3 (i := 97) (by decide +kernel) rfl⟩
theorem mX1_rowsUsed : MOK yX1_rowsUsed cX1_rowsUsed 2 (some .int) 0 := ⟨mT1 (i := 3) (by decide +kernel) rfl, mT1 (i := 225) (by decide +kernel) rfl, by decide +kernel, by decide +kernel⟩
theorem vX1_rowsUsed : VOK yX1_rowsUsed := ⟨mT1 (i := 223) (by decide +kernel) rfl, mT1 (i := 224) (by decide +kernel) rfl⟩
theorem mX1_cellsUsed : MOK yX1_cellsUsed cX1_cellsUsed 4 (some .int) 0 := ⟨mT1 (i := 3) (by decide +kernel) rfl, mT1 (i := 234) (by decide +kernel) rfl, by decide +kernel, by decide +kernel⟩
theorem vX1_cellsUsed : VOK yX1_cellsUsed := ⟨mT1 (i := 232) (by decide +kernel) rfl, mT1 (i := 233) (by decide +kernel) rfl⟩
theorem mX1_hasNoOverlap : MOK yX1_hasNoOverlap cX1_hasNoOverlap 2 (some .boolean) 0 := ⟨mT1 (i := 3) (by decide +kernel) rfl, mT2 (i := 18) (by decide +kernel) rfl, by decide +kernel, by decide +kernel⟩
theorem vX1_hasNoOverlap : VOK yX1_hasNoOverlap := ⟨mT2 (i := 16) (by decide +kernel) rfl, mT2 (i := 17) (by decide +kernel) rfl⟩
theorem mX1_meetsAnew : MOK yX1_meetsAnew cX1_meetsAnew 5 (some .boolean) 1 := ⟨mT1 (i := 3) (by decide +kernel) rfl, mT2 (i := 22) (by decide +kernel) rfl, by decide +kernel, by decide +kernel⟩
theorem vX1_meetsAnew : VOK yX1_meetsAnew := ⟨mT2 (i := 21) (by decide +kernel) rfl, mT0 (i := 4) (by decide +kernel) rfl⟩
theorem mX2_init : MOK yX2_init cX2_init 3 none 2 := ⟨mT1 (i := 14) (by decide +kernel) rfl, mT2 (i := 207) (by decide +kernel) rfl, by decide +kernel, by decide +kernel⟩
theorem mX2_trace : MOK yX2_trace cX2_trace 10 none 3 := ⟨mT1 (i := 14) (by decide +kernel) rfl, mT3 (i := 112) (by decide +kernel) rfl, by decide +kernel, by decide +kernel⟩
theorem vX2_trace : VOK yX2_trace := ⟨mT3 (i := 110) (by decide +kernel) rfl, mT3 (i := 111) (by decide +kernel) rfl⟩
theorem mX2_turnedRow : MOK yX2_turnedRow cX2_turnedRow 4 (some .int) 2 := ⟨mT1 (i := 14) (by decide +kernel) rfl, mT3 (i := 119) (by decide +kernel) rfl, by decide +kernel, by decide +kernel⟩
theorem vX2_turnedRow : VOK yX2_turnedRow := ⟨mT3 (i := 118) (by decide +kernel) rfl, mT0 (i := 11) (by decide +kernel) rfl⟩
theorem mX2_turnedColumn : MOK yX2_turnedColumn cX2_turnedColumn 4 (some .int) 2 := ⟨mT1 (i := 14) (by decide +kernel) rfl, mT3 (i := 123) (by decide +kernel) rfl, by decide +kernel, by decide +kernel⟩
theorem vX2_turnedColumn : VOK yX2_turnedColumn := ⟨mT3 (i := 122) (by decide +kernel) rfl, mT0 (i := 12) (by decide +kernel) rfl⟩
theorem mX2_hasCell : MOK yX2_hasCell cX2_hasCell 3 (some .boolean) 2 := ⟨mT1 (i := 14) (by decide +kernel) rfl, mT4 (i := 111) (by decide +kernel) rfl, by decide +kernel, by decide +kernel⟩
theorem vX2_hasCell : VOK yX2_hasCell := ⟨mT4 (i := 109) (by decide +kernel) rfl, mT4 (i := 110) (by decide +kernel) rfl⟩
theorem mX3_init : MOK yX3_init cX3_init 1 none 0 := ⟨mT1 (i := 4) (by decide +kernel) rfl, mT1 (i := 77) (by decide +kernel) rfl, by decide +kernel, by decide +kernel⟩
theorem mX3_covers : MOK yX3_covers cX3_covers 3 (some .boolean) 2 := ⟨mT1 (i := 4) (by decide +kernel) rfl, mT4 (i := 107) (by decide +kernel) rfl, by decide +kernel, by decide +kernel⟩
theorem vX3_covers : VOK yX3_covers := ⟨mT4 (i := 105) (by decide +kernel) rfl, mT4 (i := 106) (by decide +kernel) rfl⟩
theorem mX4_init : MOK yX4_init cX4_init 4 none 2 := ⟨mT1 (i := 13) (by decide +kernel) rfl, mT2 (i := 200) (by decide +kernel) rfl, by decide +kernel, by decide +kernel⟩
theorem mX4_hasCell : MOK yX4_hasCell cX4_hasCell 3 (some .boolean) 2 := ⟨mT1 (i := 13) (by decide +kernel) rfl, mT3 (i := 87) (by decide +kernel) rfl, by decide +kernel, by decide +kernel⟩
theorem vX4_hasCell : VOK yX4_hasCell := ⟨mT3 (i := 85) (by decide +kernel) rfl, mT3 (i := 86) (by decide +kernel) rfl⟩
theorem mX4_draw : MOK yX4_draw cX4_draw 3 none 2 := ⟨mT1 (i := 13) (by decide +kernel) rfl, mT3 (i := 103) (by decide +kernel) rfl, by decide +kernel, by decide +kernel⟩
theorem vX4_draw : VOK yX4_draw := ⟨mT3 (i := 101) (by decide +kernel) rfl, mT3 (i := 102) (by decide +kernel) rfl⟩
theorem mX4_mark : MOK yX4_mark cX4_mark 4 none 3 := ⟨mT1 (i := 13) (by decide +kernel) rfl, mT3 (i := 144) (by decide +kernel) rfl, by decide +kernel, by decide +kernel⟩
theorem vX4_mark : VOK yX4_mark := ⟨mT3 (i := 142) (by decide +kernel) rfl, mT3 (i := 143) (by decide +kernel) rfl⟩
theorem mX4_traceAll : MOK yX4_traceAll cX4_traceAll 3 none 0 := ⟨mT1 (i := 13) (by decide +kernel) rfl, mT3 (i := 108) (by decide +kernel) rfl, by decide +kernel, by decide +kernel⟩
theorem vX4_traceAll : VOK yX4_traceAll := ⟨mT3 (i := 107) (by decide +kernel) rfl, mT0 (i := 10) (by decide +kernel) rfl⟩
theorem mX4_outlineFor : MOK yX4_outlineFor cX4_outlineFor 4 (some (.object "CuttingRoom$Outline")) 2 := ⟨mT1 (i := 13) (by decide +kernel) rfl, mT3 (i := 170) (by decide +kernel) rfl, by decide +kernel, by decide +kernel⟩
theorem vX4_outlineFor : VOK yX4_outlineFor := ⟨mT3 (i := 168) (by decide +kernel) rfl, mT3 (i := 169) (by decide +kernel) rfl⟩
theorem mX4_canTurn : MOK yX4_canTurn cX4_canTurn 3 (some .boolean) 2 := ⟨mT1 (i := 13) (by decide +kernel) rfl, mT3 (i := 174) (by decide +kernel) rfl, by decide +kernel, by decide +kernel⟩
theorem vX4_canTurn : VOK yX4_canTurn := ⟨mT3 (i := 172) (by decide +kernel) rfl, mT3 (i := 173) (by decide +kernel) rfl⟩
theorem mX4_canMirror : MOK yX4_canMirror cX4_canMirror 2 (some .boolean) 1 := ⟨mT1 (i := 13) (by decide +kernel) rfl, mT3 (i := 178) (by decide +kernel) rfl, by decide +kernel, by decide +kernel⟩
theorem vX4_canMirror : VOK yX4_canMirror := ⟨mT3 (i := 176) (by decide +kernel) rfl, mT3 (i := 177) (by decide +kernel) rfl⟩
theorem mX4_whole : MOK yX4_whole cX4_whole 1 (some .int) 0 := ⟨mT1 (i := 13) (by decide +kernel) rfl, mT5 (i := 57) (by decide +kernel) rfl, by decide +kernel, by decide +kernel⟩
theorem vX4_whole : VOK yX4_whole := ⟨mT5 (i := 55) (by decide +kernel) rfl, mT5 (i := 56) (by decide +kernel) rfl⟩
theorem mX4_receive : MOK yX4_receive cX4_receive 3 none 2 := ⟨mT1 (i := 13) (by decide +kernel) rfl, mT5 (i := 25) (by decide +kernel) rfl, by decide +kernel, by decide +kernel⟩
theorem vX4_receive : VOK yX4_receive := ⟨mT5 (i := 23) (by decide +kernel) rfl, mT5 (i := 24) (by decide +kernel) rfl⟩
theorem mX4_giveAway : MOK yX4_giveAway cX4_giveAway 2 none 1 := ⟨mT1 (i := 13) (by decide +kernel) rfl, mT5 (i := 93) (by decide +kernel) rfl, by decide +kernel, by decide +kernel⟩
theorem vX4_giveAway : VOK yX4_giveAway := ⟨mT5 (i := 91) (by decide +kernel) rfl, mT5 (i := 92) (by decide +kernel) rfl⟩
theorem mX5_init : MOK yX5_init cX5_init 1 none 0 := ⟨mT1 (i := 20) (by decide +kernel) rfl, mT4 (i := 137) (by decide +kernel) rfl, by decide +kernel, by decide +kernel⟩
theorem mX5_hasParts : MOK yX5_hasParts cX5_hasParts 2 (some .boolean) 0 := ⟨mT1 (i := 20) (by decide +kernel) rfl, mT5 (i := 48) (by decide +kernel) rfl, by decide +kernel, by decide +kernel⟩
theorem vX5_hasParts : VOK yX5_hasParts := ⟨mT5 (i := 46) (by decide +kernel) rfl, mT5 (i := 47) (by decide +kernel) rfl⟩
theorem mX6_init : MOK yX6_init cX6_init 1 none 0 := ⟨mT1 (i := 1) (by decide +kernel) rfl, mT1 (i := 26) (by decide +kernel) rfl, by decide +kernel, by decide +kernel⟩
theorem mX6_setCloth : MOK yX6_setCloth cX6_setCloth 5 (some .int) 3 := ⟨mT1 (i := 1) (by decide +kernel) rfl, mT2 (i := 41) (by decide +kernel) rfl, by decide +kernel, by decide +kernel⟩
theorem vX6_setCloth : VOK yX6_setCloth := ⟨mT2 (i := 39) (by decide +kernel) rfl, mT2 (i := 40) (by decide +kernel) rfl⟩
theorem mX6_fold : MOK yX6_fold cX6_fold 3 (some .boolean) 1 := ⟨mT1 (i := 1) (by decide +kernel) rfl, mT2 (i := 139) (by decide +kernel) rfl, by decide +kernel, by decide +kernel⟩
theorem vX6_fold : VOK yX6_fold := ⟨mT2 (i := 137) (by decide +kernel) rfl, mT2 (i := 138) (by decide +kernel) rfl⟩
theorem mX6_addFlaw : MOK yX6_addFlaw cX6_addFlaw 3 (some .int) 2 := ⟨mT1 (i := 1) (by decide +kernel) rfl, mT2 (i := 152) (by decide +kernel) rfl, by decide +kernel, by decide +kernel⟩
theorem vX6_addFlaw : VOK yX6_addFlaw := ⟨mT2 (i := 150) (by decide +kernel) rfl, mT2 (i := 151) (by decide +kernel) rfl⟩
theorem mX6_isUnderPiece : MOK yX6_isUnderPiece cX6_isUnderPiece 3 (some .boolean) 2 := ⟨mT1 (i := 1) (by decide +kernel) rfl, mT2 (i := 157) (by decide +kernel) rfl, by decide +kernel, by decide +kernel⟩
theorem vX6_isUnderPiece : VOK yX6_isUnderPiece := ⟨mT2 (i := 156) (by decide +kernel) rfl, mT0 (i := 8) (by decide +kernel) rfl⟩
theorem mX6_clearFlaws : MOK yX6_clearFlaws cX6_clearFlaws 2 (some .int) 0 := ⟨mT1 (i := 1) (by decide +kernel) rfl, mT1 (i := 179) (by decide +kernel) rfl, by decide +kernel, by decide +kernel⟩
theorem vX6_clearFlaws : VOK yX6_clearFlaws := ⟨mT1 (i := 177) (by decide +kernel) rfl, mT1 (i := 178) (by decide +kernel) rfl⟩
theorem mX6_addShape : MOK yX6_addShape cX6_addShape 4 (some .int) 2 := ⟨mT1 (i := 1) (by decide +kernel) rfl, mT2 (i := 194) (by decide +kernel) rfl, by decide +kernel, by decide +kernel⟩
theorem vX6_addShape : VOK yX6_addShape := ⟨mT2 (i := 192) (by decide +kernel) rfl, mT2 (i := 193) (by decide +kernel) rfl⟩
theorem mX6_addCell : MOK yX6_addCell cX6_addCell 5 (some .int) 3 := ⟨mT1 (i := 1) (by decide +kernel) rfl, mT3 (i := 65) (by decide +kernel) rfl, by decide +kernel, by decide +kernel⟩
theorem vX6_addCell : VOK yX6_addCell := ⟨mT3 (i := 63) (by decide +kernel) rfl, mT3 (i := 64) (by decide +kernel) rfl⟩
theorem mX6_setMark : MOK yX6_setMark cX6_setMark 7 (some .int) 4 := ⟨mT1 (i := 1) (by decide +kernel) rfl, mT3 (i := 138) (by decide +kernel) rfl, by decide +kernel, by decide +kernel⟩
theorem vX6_setMark : VOK yX6_setMark := ⟨mT3 (i := 136) (by decide +kernel) rfl, mT3 (i := 137) (by decide +kernel) rfl⟩
theorem mX6_cellsOf : MOK yX6_cellsOf cX6_cellsOf 2 (some .int) 1 := ⟨mT1 (i := 1) (by decide +kernel) rfl, mT3 (i := 151) (by decide +kernel) rfl, by decide +kernel, by decide +kernel⟩
theorem vX6_cellsOf : VOK yX6_cellsOf := ⟨mT3 (i := 149) (by decide +kernel) rfl, mT3 (i := 150) (by decide +kernel) rfl⟩
theorem mX6_shapeOrThrow : MOK yX6_shapeOrThrow cX6_shapeOrThrow 3 (some (.object "CuttingRoom$Shape")) 1 := ⟨mT1 (i := 1) (by decide +kernel) rfl, mT3 (i := 69) (by decide +kernel) rfl, by decide +kernel, by decide +kernel⟩
theorem vX6_shapeOrThrow : VOK yX6_shapeOrThrow := ⟨mT3 (i := 68) (by decide +kernel) rfl, mT0 (i := 9) (by decide +kernel) rfl⟩
theorem mX6_shapeNumbered : MOK yX6_shapeNumbered cX6_shapeNumbered 2 (some (.object "CuttingRoom$Shape")) 1 := ⟨mT1 (i := 1) (by decide +kernel) rfl, mT2 (i := 10) (by decide +kernel) rfl, by decide +kernel, by decide +kernel⟩
theorem vX6_shapeNumbered : VOK yX6_shapeNumbered := ⟨mT2 (i := 9) (by decide +kernel) rfl, mT0 (i := 3) (by decide +kernel) rfl⟩
theorem mX6_lay : MOK yX6_lay cX6_lay 7 (some .int) 5 := ⟨mT1 (i := 1) (by decide +kernel) rfl, mT3 (i := 158) (by decide +kernel) rfl, by decide +kernel, by decide +kernel⟩
theorem vX6_lay : VOK yX6_lay := ⟨mT3 (i := 156) (by decide +kernel) rfl, mT3 (i := 157) (by decide +kernel) rfl⟩
theorem mX6_reason : MOK yX6_reason cX6_reason 7 (some .char) 5 := ⟨mT1 (i := 1) (by decide +kernel) rfl, mT3 (i := 227) (by decide +kernel) rfl, by decide +kernel, by decide +kernel⟩
theorem vX6_reason : VOK yX6_reason := ⟨mT3 (i := 225) (by decide +kernel) rfl, mT3 (i := 226) (by decide +kernel) rfl⟩
theorem mX6_checkTurns : MOK yX6_checkTurns cX6_checkTurns 1 none 1 := ⟨mT1 (i := 1) (by decide +kernel) rfl, mT3 (i := 161) (by decide +kernel) rfl, by decide +kernel, by decide +kernel⟩
theorem sX6_checkTurns : Cond.static yX6_checkTurns ∈ GW := mT3 (i := 160) (by decide +kernel) rfl
theorem mX6_nest : MOK yX6_nest cX6_nest 5 (some .int) 2 := ⟨mT1 (i := 1) (by decide +kernel) rfl, mT3 (i := 235) (by decide +kernel) rfl, by decide +kernel, by decide +kernel⟩
theorem vX6_nest : VOK yX6_nest := ⟨mT3 (i := 233) (by decide +kernel) rfl, mT3 (i := 234) (by decide +kernel) rfl⟩
theorem mX6_takeOff : MOK yX6_takeOff cX6_takeOff 2 (some .int) 1 := ⟨mT1 (i := 1) (by decide +kernel) rfl, mT4 (i := 29) (by decide +kernel) rfl, by decide +kernel, by decide +kernel⟩
theorem vX6_takeOff : VOK yX6_takeOff := ⟨mT4 (i := 27) (by decide +kernel) rfl, mT4 (i := 28) (by decide +kernel) rfl⟩
theorem mX6_clear : MOK yX6_clear cX6_clear 2 (some .int) 0 := ⟨mT1 (i := 1) (by decide +kernel) rfl, mT1 (i := 209) (by decide +kernel) rfl, by decide +kernel, by decide +kernel⟩
theorem vX6_clear : VOK yX6_clear := ⟨mT1 (i := 207) (by decide +kernel) rfl, mT1 (i := 208) (by decide +kernel) rfl⟩
theorem mX6_inMarker : MOK yX6_inMarker cX6_inMarker 1 (some .int) 0 := ⟨mT1 (i := 1) (by decide +kernel) rfl, mT1 (i := 217) (by decide +kernel) rfl, by decide +kernel, by decide +kernel⟩
theorem vX6_inMarker : VOK yX6_inMarker := ⟨mT1 (i := 215) (by decide +kernel) rfl, mT1 (i := 216) (by decide +kernel) rfl⟩
theorem mX6_rowOf : MOK yX6_rowOf cX6_rowOf 2 (some .int) 1 := ⟨mT1 (i := 1) (by decide +kernel) rfl, mT4 (i := 64) (by decide +kernel) rfl, by decide +kernel, by decide +kernel⟩
theorem vX6_rowOf : VOK yX6_rowOf := ⟨mT4 (i := 62) (by decide +kernel) rfl, mT4 (i := 63) (by decide +kernel) rfl⟩
theorem mX6_columnOf : MOK yX6_columnOf cX6_columnOf 2 (some .int) 1 := ⟨mT1 (i := 1) (by decide +kernel) rfl, mT4 (i := 71) (by decide +kernel) rfl, by decide +kernel, by decide +kernel⟩
theorem vX6_columnOf : VOK yX6_columnOf := ⟨mT4 (i := 69) (by decide +kernel) rfl, mT4 (i := 70) (by decide +kernel) rfl⟩
theorem mX6_turnsOf : MOK yX6_turnsOf cX6_turnsOf 2 (some .int) 1 := ⟨mT1 (i := 1) (by decide +kernel) rfl, mT4 (i := 78) (by decide +kernel) rfl, by decide +kernel, by decide +kernel⟩
theorem vX6_turnsOf : VOK yX6_turnsOf := ⟨mT4 (i := 76) (by decide +kernel) rfl, mT4 (i := 77) (by decide +kernel) rfl⟩
theorem mX6_pieceOrThrow : MOK yX6_pieceOrThrow cX6_pieceOrThrow 3 (some (.object "CuttingRoom$Piece")) 1 := ⟨mT1 (i := 1) (by decide +kernel) rfl, mT4 (i := 33) (by decide +kernel) rfl, by decide +kernel, by decide +kernel⟩
theorem vX6_pieceOrThrow : VOK yX6_pieceOrThrow := ⟨mT4 (i := 32) (by decide +kernel) rfl, mT0 (i := 16) (by decide +kernel) rfl⟩
theorem mX6_pieceAt : MOK yX6_pieceAt cX6_pieceAt 3 (some .int) 2 := ⟨mT1 (i := 1) (by decide +kernel) rfl, mT4 (i := 85) (by decide +kernel) rfl, by decide +kernel, by decide +kernel⟩
theorem vX6_pieceAt : VOK yX6_pieceAt := ⟨mT4 (i := 83) (by decide +kernel) rfl, mT4 (i := 84) (by decide +kernel) rfl⟩
theorem mX6_pieceByPieces : MOK yX6_pieceByPieces cX6_pieceByPieces 3 (some .int) 2 := ⟨mT1 (i := 1) (by decide +kernel) rfl, mT4 (i := 99) (by decide +kernel) rfl, by decide +kernel, by decide +kernel⟩
theorem vX6_pieceByPieces : VOK yX6_pieceByPieces := ⟨mT4 (i := 97) (by decide +kernel) rfl, mT4 (i := 98) (by decide +kernel) rfl⟩
theorem mX6_checkCell : MOK yX6_checkCell cX6_checkCell 2 none 2 := ⟨mT1 (i := 1) (by decide +kernel) rfl, mT4 (i := 88) (by decide +kernel) rfl, by decide +kernel, by decide +kernel⟩
theorem sX6_checkCell : Cond.static yX6_checkCell ∈ GW := mT4 (i := 87) (by decide +kernel) rfl
theorem mX6_numberOrThrow : MOK yX6_numberOrThrow cX6_numberOrThrow 1 (some .int) 1 := ⟨mT1 (i := 1) (by decide +kernel) rfl, mT4 (i := 91) (by decide +kernel) rfl, by decide +kernel, by decide +kernel⟩
theorem sX6_numberOrThrow : Cond.static yX6_numberOrThrow ∈ GW := mT4 (i := 90) (by decide +kernel) rfl
theorem mX6_length : MOK yX6_length cX6_length 1 (some .int) 0 := ⟨mT1 (i := 1) (by decide +kernel) rfl, mT1 (i := 221) (by decide +kernel) rfl, by decide +kernel, by decide +kernel⟩
theorem vX6_length : VOK yX6_length := ⟨mT1 (i := 219) (by decide +kernel) rfl, mT1 (i := 220) (by decide +kernel) rfl⟩
theorem mX6_used : MOK yX6_used cX6_used 1 (some .int) 0 := ⟨mT1 (i := 1) (by decide +kernel) rfl, mT1 (i := 230) (by decide +kernel) rfl, by decide +kernel, by decide +kernel⟩
theorem vX6_used : VOK yX6_used := ⟨mT1 (i := 228) (by decide +kernel) rfl, mT1 (i := 229) (by decide +kernel) rfl⟩
theorem mX6_phase : MOK yX6_phase cX6_phase 2 (some .int) 1 := ⟨mT1 (i := 1) (by decide +kernel) rfl, mT4 (i := 119) (by decide +kernel) rfl, by decide +kernel, by decide +kernel⟩
theorem vX6_phase : VOK yX6_phase := ⟨mT4 (i := 117) (by decide +kernel) rfl, mT4 (i := 118) (by decide +kernel) rfl⟩
theorem mX6_addStyle : MOK yX6_addStyle cX6_addStyle 2 (some .int) 0 := ⟨mT1 (i := 1) (by decide +kernel) rfl, mT4 (i := 132) (by decide +kernel) rfl, by decide +kernel, by decide +kernel⟩
theorem vX6_addStyle : VOK yX6_addStyle := ⟨mT4 (i := 130) (by decide +kernel) rfl, mT4 (i := 131) (by decide +kernel) rfl⟩
theorem mX6_addPart : MOK yX6_addPart cX6_addPart 5 (some .int) 3 := ⟨mT1 (i := 1) (by decide +kernel) rfl, mT4 (i := 153) (by decide +kernel) rfl, by decide +kernel, by decide +kernel⟩
theorem vX6_addPart : VOK yX6_addPart := ⟨mT4 (i := 151) (by decide +kernel) rfl, mT4 (i := 152) (by decide +kernel) rfl⟩
theorem mX6_piecesFor : MOK yX6_piecesFor cX6_piecesFor 2 (some .int) 1 := ⟨mT1 (i := 1) (by decide +kernel) rfl, mT4 (i := 172) (by decide +kernel) rfl, by decide +kernel, by decide +kernel⟩
theorem vX6_piecesFor : VOK yX6_piecesFor := ⟨mT4 (i := 170) (by decide +kernel) rfl, mT4 (i := 171) (by decide +kernel) rfl⟩
theorem mX6_styleOrThrow : MOK yX6_styleOrThrow cX6_styleOrThrow 3 (some (.object "CuttingRoom$Style")) 1 := ⟨mT1 (i := 1) (by decide +kernel) rfl, mT4 (i := 157) (by decide +kernel) rfl, by decide +kernel, by decide +kernel⟩
theorem vX6_styleOrThrow : VOK yX6_styleOrThrow := ⟨mT4 (i := 156) (by decide +kernel) rfl, mT0 (i := 20) (by decide +kernel) rfl⟩
theorem mX6_styleWithPartsOrThrow : MOK yX6_styleWithPartsOrThrow cX6_styleWithPartsOrThrow 3 (some (.object "CuttingRoom$Style")) 1 := ⟨mT1 (i := 1) (by decide +kernel) rfl, mT5 (i := 44) (by decide +kernel) rfl, by decide +kernel, by decide +kernel⟩
theorem vX6_styleWithPartsOrThrow : VOK yX6_styleWithPartsOrThrow := ⟨mT5 (i := 43) (by decide +kernel) rfl, mT0 (i := 33) (by decide +kernel) rfl⟩
theorem mX6_piecesOfGarment : MOK yX6_piecesOfGarment cX6_piecesOfGarment 4 (some .int) 1 := ⟨mT1 (i := 1) (by decide +kernel) rfl, mT4 (i := 165) (by decide +kernel) rfl, by decide +kernel, by decide +kernel⟩
theorem vX6_piecesOfGarment : VOK yX6_piecesOfGarment := ⟨mT4 (i := 164) (by decide +kernel) rfl, mT0 (i := 21) (by decide +kernel) rfl⟩
theorem mX6_piecesOfPart : MOK yX6_piecesOfPart cX6_piecesOfPart 5 (some .int) 2 := ⟨mT1 (i := 1) (by decide +kernel) rfl, mT2 (i := 31) (by decide +kernel) rfl, by decide +kernel, by decide +kernel⟩
theorem vX6_piecesOfPart : VOK yX6_piecesOfPart := ⟨mT2 (i := 30) (by decide +kernel) rfl, mT0 (i := 6) (by decide +kernel) rfl⟩
theorem mX6_nestedLength : MOK yX6_nestedLength cX6_nestedLength 3 (some .int) 1 := ⟨mT1 (i := 1) (by decide +kernel) rfl, mT4 (i := 179) (by decide +kernel) rfl, by decide +kernel, by decide +kernel⟩
theorem vX6_nestedLength : VOK yX6_nestedLength := ⟨mT4 (i := 177) (by decide +kernel) rfl, mT4 (i := 178) (by decide +kernel) rfl⟩
theorem mX6_nestedByTrying : MOK yX6_nestedByTrying cX6_nestedByTrying 6 (some .int) 1 := ⟨mT1 (i := 1) (by decide +kernel) rfl, mT4 (i := 221) (by decide +kernel) rfl, by decide +kernel, by decide +kernel⟩
theorem vX6_nestedByTrying : VOK yX6_nestedByTrying := ⟨mT4 (i := 219) (by decide +kernel) rfl, mT4 (i := 220) (by decide +kernel) rfl⟩
theorem mX6_lengthOrThrow : MOK yX6_lengthOrThrow cX6_lengthOrThrow 1 (some .int) 1 := ⟨mT1 (i := 1) (by decide +kernel) rfl, mT4 (i := 213) (by decide +kernel) rfl, by decide +kernel, by decide +kernel⟩
theorem sX6_lengthOrThrow : Cond.static yX6_lengthOrThrow ∈ GW := mT4 (i := 212) (by decide +kernel) rfl
theorem mX6_wantPieces : MOK yX6_wantPieces cX6_wantPieces 6 (some .int) 1 := ⟨mT1 (i := 1) (by decide +kernel) rfl, mT4 (i := 183) (by decide +kernel) rfl, by decide +kernel, by decide +kernel⟩
theorem vX6_wantPieces : VOK yX6_wantPieces := ⟨mT4 (i := 182) (by decide +kernel) rfl, mT0 (i := 22) (by decide +kernel) rfl⟩
theorem mX6_plainToNest : MOK yX6_plainToNest cX6_plainToNest 6 (some .int) 2 := ⟨mT1 (i := 1) (by decide +kernel) rfl, mT4 (i := 187) (by decide +kernel) rfl, by decide +kernel, by decide +kernel⟩
theorem vX6_plainToNest : VOK yX6_plainToNest := ⟨mT4 (i := 186) (by decide +kernel) rfl, mT0 (i := 23) (by decide +kernel) rfl⟩
theorem mX6_mirroredToNest : MOK yX6_mirroredToNest cX6_mirroredToNest 4 (some .int) 2 := ⟨mT1 (i := 1) (by decide +kernel) rfl, mT4 (i := 191) (by decide +kernel) rfl, by decide +kernel, by decide +kernel⟩
theorem vX6_mirroredToNest : VOK yX6_mirroredToNest := ⟨mT4 (i := 190) (by decide +kernel) rfl, mT0 (i := 24) (by decide +kernel) rfl⟩
theorem mX6_shortest : MOK yX6_shortest cX6_shortest 5 (some .int) 2 := ⟨mT1 (i := 1) (by decide +kernel) rfl, mT4 (i := 199) (by decide +kernel) rfl, by decide +kernel, by decide +kernel⟩
theorem vX6_shortest : VOK yX6_shortest := ⟨mT4 (i := 198) (by decide +kernel) rfl, mT0 (i := 25) (by decide +kernel) rfl⟩
theorem mX6_shortestWith : MOK yX6_shortestWith cX6_shortestWith 6 (some .int) 3 := ⟨mT1 (i := 1) (by decide +kernel) rfl, mT4 (i := 206) (by decide +kernel) rfl, by decide +kernel, by decide +kernel⟩
theorem vX6_shortestWith : VOK yX6_shortestWith := ⟨mT4 (i := 205) (by decide +kernel) rfl, mT0 (i := 26) (by decide +kernel) rfl⟩
theorem mX6_lengthInOrder : MOK yX6_lengthInOrder cX6_lengthInOrder 7 (some .int) 2 := ⟨mT1 (i := 1) (by decide +kernel) rfl, mT4 (i := 225) (by decide +kernel) rfl, by decide +kernel, by decide +kernel⟩
theorem vX6_lengthInOrder : VOK yX6_lengthInOrder := ⟨mT4 (i := 224) (by decide +kernel) rfl, mT0 (i := 28) (by decide +kernel) rfl⟩
theorem mX6_fillQueue : MOK yX6_fillQueue cX6_fillQueue 4 none 0 := ⟨mT1 (i := 1) (by decide +kernel) rfl, mT4 (i := 229) (by decide +kernel) rfl, by decide +kernel, by decide +kernel⟩
theorem vX6_fillQueue : VOK yX6_fillQueue := ⟨mT4 (i := 228) (by decide +kernel) rfl, mT0 (i := 29) (by decide +kernel) rfl⟩
theorem mX6_nestInTrial : MOK yX6_nestInTrial cX6_nestInTrial 5 (some .int) 1 := ⟨mT1 (i := 1) (by decide +kernel) rfl, mT4 (i := 210) (by decide +kernel) rfl, by decide +kernel, by decide +kernel⟩
theorem vX6_nestInTrial : VOK yX6_nestInTrial := ⟨mT4 (i := 209) (by decide +kernel) rfl, mT0 (i := 27) (by decide +kernel) rfl⟩
theorem mX6_kindOf : MOK yX6_kindOf cX6_kindOf 2 (some .int) 2 := ⟨mT1 (i := 1) (by decide +kernel) rfl, mT4 (i := 194) (by decide +kernel) rfl, by decide +kernel, by decide +kernel⟩
theorem sX6_kindOf : Cond.static yX6_kindOf ∈ GW := mT4 (i := 193) (by decide +kernel) rfl
theorem mX6_addCloth : MOK yX6_addCloth cX6_addCloth 2 (some .int) 1 := ⟨mT1 (i := 1) (by decide +kernel) rfl, mT4 (i := 236) (by decide +kernel) rfl, by decide +kernel, by decide +kernel⟩
theorem vX6_addCloth : VOK yX6_addCloth := ⟨mT4 (i := 234) (by decide +kernel) rfl, mT4 (i := 235) (by decide +kernel) rfl⟩
theorem mX6_roll : MOK yX6_roll cX6_roll 1 (some .int) 0 := ⟨mT1 (i := 1) (by decide +kernel) rfl, mT2 (i := 2) (by decide +kernel) rfl, by decide +kernel, by decide +kernel⟩
theorem vX6_roll : VOK yX6_roll := ⟨mT2 (i := 0) (by decide +kernel) rfl, mT2 (i := 1) (by decide +kernel) rfl⟩
theorem mX6_spread : MOK yX6_spread cX6_spread 4 (some .int) 1 := ⟨mT1 (i := 1) (by decide +kernel) rfl, mT5 (i := 5) (by decide +kernel) rfl, by decide +kernel, by decide +kernel⟩
theorem vX6_spread : VOK yX6_spread := ⟨mT5 (i := 3) (by decide +kernel) rfl, mT5 (i := 4) (by decide +kernel) rfl⟩
theorem mX6_stockHolds : MOK yX6_stockHolds cX6_stockHolds 4 (some .boolean) 1 := ⟨mT1 (i := 1) (by decide +kernel) rfl, mT5 (i := 11) (by decide +kernel) rfl, by decide +kernel, by decide +kernel⟩
theorem vX6_stockHolds : VOK yX6_stockHolds := ⟨mT5 (i := 10) (by decide +kernel) rfl, mT0 (i := 30) (by decide +kernel) rfl⟩
theorem mX6_cutPlies : MOK yX6_cutPlies cX6_cutPlies 3 none 2 := ⟨mT1 (i := 1) (by decide +kernel) rfl, mT5 (i := 21) (by decide +kernel) rfl, by decide +kernel, by decide +kernel⟩
theorem vX6_cutPlies : VOK yX6_cutPlies := ⟨mT5 (i := 20) (by decide +kernel) rfl, mT0 (i := 32) (by decide +kernel) rfl⟩
theorem mX6_perPly : MOK yX6_perPly cX6_perPly 4 (some .int) 2 := ⟨mT1 (i := 1) (by decide +kernel) rfl, mT5 (i := 15) (by decide +kernel) rfl, by decide +kernel, by decide +kernel⟩
theorem vX6_perPly : VOK yX6_perPly := ⟨mT5 (i := 14) (by decide +kernel) rfl, mT0 (i := 31) (by decide +kernel) rfl⟩
theorem mX6_pieces : MOK yX6_pieces cX6_pieces 4 (some .int) 2 := ⟨mT1 (i := 1) (by decide +kernel) rfl, mT5 (i := 32) (by decide +kernel) rfl, by decide +kernel, by decide +kernel⟩
theorem vX6_pieces : VOK yX6_pieces := ⟨mT5 (i := 30) (by decide +kernel) rfl, mT5 (i := 31) (by decide +kernel) rfl⟩
theorem mX6_cut : MOK yX6_cut cX6_cut 5 (some .long) 0 := ⟨mT1 (i := 1) (by decide +kernel) rfl, mT2 (i := 6) (by decide +kernel) rfl, by decide +kernel, by decide +kernel⟩
theorem vX6_cut : VOK yX6_cut := ⟨mT2 (i := 4) (by decide +kernel) rfl, mT2 (i := 5) (by decide +kernel) rfl⟩
theorem mX6_canMake : MOK yX6_canMake cX6_canMake 2 (some .int) 1 := ⟨mT1 (i := 1) (by decide +kernel) rfl, mT5 (i := 40) (by decide +kernel) rfl, by decide +kernel, by decide +kernel⟩
theorem vX6_canMake : VOK yX6_canMake := ⟨mT5 (i := 38) (by decide +kernel) rfl, mT5 (i := 39) (by decide +kernel) rfl⟩
theorem mX6_garmentsInStock : MOK yX6_garmentsInStock cX6_garmentsInStock 6 (some .int) 1 := ⟨mT1 (i := 1) (by decide +kernel) rfl, mT5 (i := 53) (by decide +kernel) rfl, by decide +kernel, by decide +kernel⟩
theorem vX6_garmentsInStock : VOK yX6_garmentsInStock := ⟨mT5 (i := 52) (by decide +kernel) rfl, mT0 (i := 34) (by decide +kernel) rfl⟩
theorem mX6_canMakeByTaking : MOK yX6_canMakeByTaking cX6_canMakeByTaking 5 (some .int) 1 := ⟨mT1 (i := 1) (by decide +kernel) rfl, mT5 (i := 65) (by decide +kernel) rfl, by decide +kernel, by decide +kernel⟩
theorem vX6_canMakeByTaking : VOK yX6_canMakeByTaking := ⟨mT5 (i := 63) (by decide +kernel) rfl, mT5 (i := 64) (by decide +kernel) rfl⟩
theorem mX6_takesGarment : MOK yX6_takesGarment cX6_takesGarment 5 (some .boolean) 1 := ⟨mT1 (i := 1) (by decide +kernel) rfl, mT5 (i := 69) (by decide +kernel) rfl, by decide +kernel, by decide +kernel⟩
theorem vX6_takesGarment : VOK yX6_takesGarment := ⟨mT5 (i := 68) (by decide +kernel) rfl, mT0 (i := 35) (by decide +kernel) rfl⟩
theorem mX6_takesPart : MOK yX6_takesPart cX6_takesPart 4 (some .boolean) 3 := ⟨mT1 (i := 1) (by decide +kernel) rfl, mT5 (i := 73) (by decide +kernel) rfl, by decide +kernel, by decide +kernel⟩
theorem vX6_takesPart : VOK yX6_takesPart := ⟨mT5 (i := 72) (by decide +kernel) rfl, mT0 (i := 36) (by decide +kernel) rfl⟩
theorem mX6_takesKind : MOK yX6_takesKind cX6_takesKind 4 (some .boolean) 2 := ⟨mT1 (i := 1) (by decide +kernel) rfl, mT5 (i := 77) (by decide +kernel) rfl, by decide +kernel, by decide +kernel⟩
theorem vX6_takesKind : VOK yX6_takesKind := ⟨mT5 (i := 76) (by decide +kernel) rfl, mT0 (i := 37) (by decide +kernel) rfl⟩
theorem mX6_make : MOK yX6_make cX6_make 6 (some .int) 2 := ⟨mT1 (i := 1) (by decide +kernel) rfl, mT5 (i := 84) (by decide +kernel) rfl, by decide +kernel, by decide +kernel⟩
theorem vX6_make : VOK yX6_make := ⟨mT5 (i := 82) (by decide +kernel) rfl, mT5 (i := 83) (by decide +kernel) rfl⟩
theorem mX6_checkGarments : MOK yX6_checkGarments cX6_checkGarments 1 none 1 := ⟨mT1 (i := 1) (by decide +kernel) rfl, mT5 (i := 87) (by decide +kernel) rfl, by decide +kernel, by decide +kernel⟩
theorem sX6_checkGarments : Cond.static yX6_checkGarments ∈ GW := mT5 (i := 86) (by decide +kernel) rfl
theorem mX6_made : MOK yX6_made cX6_made 2 (some .int) 1 := ⟨mT1 (i := 1) (by decide +kernel) rfl, mT5 (i := 100) (by decide +kernel) rfl, by decide +kernel, by decide +kernel⟩
theorem vX6_made : VOK yX6_made := ⟨mT5 (i := 98) (by decide +kernel) rfl, mT5 (i := 99) (by decide +kernel) rfl⟩
theorem mX6_pliesFor : MOK yX6_pliesFor cX6_pliesFor 7 (some .int) 2 := ⟨mT1 (i := 1) (by decide +kernel) rfl, mT5 (i := 107) (by decide +kernel) rfl, by decide +kernel, by decide +kernel⟩
theorem vX6_pliesFor : VOK yX6_pliesFor := ⟨mT5 (i := 105) (by decide +kernel) rfl, mT5 (i := 106) (by decide +kernel) rfl⟩
theorem mX6_pliesForPart : MOK yX6_pliesForPart cX6_pliesForPart 5 (some .int) 2 := ⟨mT1 (i := 1) (by decide +kernel) rfl, mT5 (i := 111) (by decide +kernel) rfl, by decide +kernel, by decide +kernel⟩
theorem vX6_pliesForPart : VOK yX6_pliesForPart := ⟨mT5 (i := 110) (by decide +kernel) rfl, mT0 (i := 38) (by decide +kernel) rfl⟩
theorem mX6_pliesForSort : MOK yX6_pliesForSort cX6_pliesForSort 2 (some .int) 2 := ⟨mT1 (i := 1) (by decide +kernel) rfl, mT5 (i := 114) (by decide +kernel) rfl, by decide +kernel, by decide +kernel⟩
theorem sX6_pliesForSort : Cond.static yX6_pliesForSort ∈ GW := mT5 (i := 113) (by decide +kernel) rfl
theorem mX6_density : MOK yX6_density cX6_density 2 (some .float) 0 := ⟨mT1 (i := 1) (by decide +kernel) rfl, mT5 (i := 137) (by decide +kernel) rfl, by decide +kernel, by decide +kernel⟩
theorem vX6_density : VOK yX6_density := ⟨mT5 (i := 135) (by decide +kernel) rfl, mT5 (i := 136) (by decide +kernel) rfl⟩
theorem mX6_meanCells : MOK yX6_meanCells cX6_meanCells 2 (some .double) 0 := ⟨mT1 (i := 1) (by decide +kernel) rfl, mT5 (i := 147) (by decide +kernel) rfl, by decide +kernel, by decide +kernel⟩
theorem vX6_meanCells : VOK yX6_meanCells := ⟨mT5 (i := 145) (by decide +kernel) rfl, mT5 (i := 146) (by decide +kernel) rfl⟩
theorem mX6_isSound : MOK yX6_isSound cX6_isSound 3 (some .boolean) 0 := ⟨mT1 (i := 1) (by decide +kernel) rfl, mT2 (i := 14) (by decide +kernel) rfl, by decide +kernel, by decide +kernel⟩
theorem vX6_isSound : VOK yX6_isSound := ⟨mT2 (i := 12) (by decide +kernel) rfl, mT2 (i := 13) (by decide +kernel) rfl⟩
theorem mX6_inGarments : MOK yX6_inGarments cX6_inGarments 6 (some .long) 1 := ⟨mT1 (i := 1) (by decide +kernel) rfl, mT2 (i := 27) (by decide +kernel) rfl, by decide +kernel, by decide +kernel⟩
theorem vX6_inGarments : VOK yX6_inGarments := ⟨mT2 (i := 26) (by decide +kernel) rfl, mT0 (i := 5) (by decide +kernel) rfl⟩
theorem mX6_isWithin : MOK yX6_isWithin cX6_isWithin 3 (some .boolean) 3 := ⟨mT1 (i := 1) (by decide +kernel) rfl, mT2 (i := 44) (by decide +kernel) rfl, by decide +kernel, by decide +kernel⟩
theorem sX6_isWithin : Cond.static yX6_isWithin ∈ GW := mT2 (i := 43) (by decide +kernel) rfl
theorem mX6_entry : MOK yX6_entry cX6_entry 2 (some .int) 2 := ⟨mT1 (i := 1) (by decide +kernel) rfl, mT1 (i := 191) (by decide +kernel) rfl, by decide +kernel, by decide +kernel⟩
theorem sX6_entry : Cond.static yX6_entry ∈ GW := mT1 (i := 190) (by decide +kernel) rfl
theorem mX6_store : MOK yX6_store cX6_store 3 none 3 := ⟨mT1 (i := 1) (by decide +kernel) rfl, mT1 (i := 205) (by decide +kernel) rfl, by decide +kernel, by decide +kernel⟩
theorem sX6_store : Cond.static yX6_store ∈ GW := mT1 (i := 204) (by decide +kernel) rfl
theorem mX6_hasBit : MOK yX6_hasBit cX6_hasBit 2 (some .boolean) 2 := ⟨mT1 (i := 1) (by decide +kernel) rfl, mT1 (i := 198) (by decide +kernel) rfl, by decide +kernel, by decide +kernel⟩
theorem sX6_hasBit : Cond.static yX6_hasBit ∈ GW := mT1 (i := 197) (by decide +kernel) rfl
theorem mX6_firstBit : MOK yX6_firstBit cX6_firstBit 2 (some .int) 1 := ⟨mT1 (i := 1) (by decide +kernel) rfl, mT3 (i := 127) (by decide +kernel) rfl, by decide +kernel, by decide +kernel⟩
theorem sX6_firstBit : Cond.static yX6_firstBit ∈ GW := mT3 (i := 126) (by decide +kernel) rfl
theorem mX6_endOfBits : MOK yX6_endOfBits cX6_endOfBits 2 (some .int) 1 := ⟨mT1 (i := 1) (by decide +kernel) rfl, mT3 (i := 131) (by decide +kernel) rfl, by decide +kernel, by decide +kernel⟩
theorem sX6_endOfBits : Cond.static yX6_endOfBits ∈ GW := mT3 (i := 130) (by decide +kernel) rfl
theorem mX7_init : MOK yX7_init cX7_init 2 none 0 := ⟨mT1 (i := 6) (by decide +kernel) rfl, mT5 (i := 152) (by decide +kernel) rfl, by decide +kernel, by decide +kernel⟩
theorem mX7_thrown : MOK yX7_thrown cX7_thrown 1 (some .int) 0 := ⟨mT1 (i := 6) (by decide +kernel) rfl, mT6 (i := 71) (by decide +kernel) rfl, by decide +kernel, by decide +kernel⟩
theorem vX7_thrown : VOK yX7_thrown := ⟨mT6 (i := 69) (by decide +kernel) rfl, mT6 (i := 70) (by decide +kernel) rfl⟩
theorem mX7_fails : MOK yX7_fails cX7_fails 2 (some .boolean) 1 := ⟨mT1 (i := 6) (by decide +kernel) rfl, mT6 (i := 82) (by decide +kernel) rfl, by decide +kernel, by decide +kernel⟩
theorem vX7_fails : VOK yX7_fails := ⟨mT6 (i := 81) (by decide +kernel) rfl, mT0 (i := 40) (by decide +kernel) rfl⟩
theorem mX7_in : MOK yX7_in cX7_in 3 (some .boolean) 3 := ⟨mT1 (i := 6) (by decide +kernel) rfl, mT6 (i := 78) (by decide +kernel) rfl, by decide +kernel, by decide +kernel⟩
theorem sX7_in : Cond.static yX7_in ∈ GW := mT6 (i := 77) (by decide +kernel) rfl
theorem mX7_empties : MOK yX7_empties cX7_empties 2 none 0 := ⟨mT1 (i := 6) (by decide +kernel) rfl, mT5 (i := 157) (by decide +kernel) rfl, by decide +kernel, by decide +kernel⟩
theorem vX7_empties : VOK yX7_empties := ⟨mT5 (i := 156) (by decide +kernel) rfl, mT0 (i := 39) (by decide +kernel) rfl⟩
theorem mX7_columns : MOK yX7_columns cX7_columns 1 (some .int) 0 := ⟨mT1 (i := 6) (by decide +kernel) rfl, mT6 (i := 152) (by decide +kernel) rfl, by decide +kernel, by decide +kernel⟩
theorem vX7_columns : VOK yX7_columns := ⟨mT6 (i := 151) (by decide +kernel) rfl, mT0 (i := 48) (by decide +kernel) rfl⟩
theorem mX7_isBad : MOK yX7_isBad cX7_isBad 3 (some .boolean) 2 := ⟨mT1 (i := 6) (by decide +kernel) rfl, mT6 (i := 156) (by decide +kernel) rfl, by decide +kernel, by decide +kernel⟩
theorem vX7_isBad : VOK yX7_isBad := ⟨mT6 (i := 155) (by decide +kernel) rfl, mT0 (i := 49) (by decide +kernel) rfl⟩
theorem mX7_setCloth : MOK yX7_setCloth cX7_setCloth 5 (some .int) 3 := ⟨mT1 (i := 6) (by decide +kernel) rfl, mT6 (i := 75) (by decide +kernel) rfl, by decide +kernel, by decide +kernel⟩
theorem vX7_setCloth : VOK yX7_setCloth := ⟨mT6 (i := 73) (by decide +kernel) rfl, mT6 (i := 74) (by decide +kernel) rfl⟩
theorem mX7_fold : MOK yX7_fold cX7_fold 3 (some .boolean) 1 := ⟨mT1 (i := 6) (by decide +kernel) rfl, mT6 (i := 86) (by decide +kernel) rfl, by decide +kernel, by decide +kernel⟩
theorem vX7_fold : VOK yX7_fold := ⟨mT6 (i := 84) (by decide +kernel) rfl, mT6 (i := 85) (by decide +kernel) rfl⟩
theorem mX7_isUnderPiece : MOK yX7_isUnderPiece cX7_isUnderPiece 4 (some .boolean) 2 := ⟨mT1 (i := 6) (by decide +kernel) rfl, mT6 (i := 94) (by decide +kernel) rfl, by decide +kernel, by decide +kernel⟩
theorem vX7_isUnderPiece : VOK yX7_isUnderPiece := ⟨mT6 (i := 93) (by decide +kernel) rfl, mT0 (i := 41) (by decide +kernel) rfl⟩
theorem mX7_addFlaw : MOK yX7_addFlaw cX7_addFlaw 4 (some .int) 2 := ⟨mT1 (i := 6) (by decide +kernel) rfl, mT6 (i := 90) (by decide +kernel) rfl, by decide +kernel, by decide +kernel⟩
theorem vX7_addFlaw : VOK yX7_addFlaw := ⟨mT6 (i := 88) (by decide +kernel) rfl, mT6 (i := 89) (by decide +kernel) rfl⟩
theorem mX7_clearFlaws : MOK yX7_clearFlaws cX7_clearFlaws 3 (some .int) 0 := ⟨mT1 (i := 6) (by decide +kernel) rfl, mT6 (i := 98) (by decide +kernel) rfl, by decide +kernel, by decide +kernel⟩
theorem vX7_clearFlaws : VOK yX7_clearFlaws := ⟨mT6 (i := 96) (by decide +kernel) rfl, mT6 (i := 97) (by decide +kernel) rfl⟩
theorem mX7_isShape : MOK yX7_isShape cX7_isShape 2 (some .boolean) 1 := ⟨mT1 (i := 6) (by decide +kernel) rfl, mT6 (i := 110) (by decide +kernel) rfl, by decide +kernel, by decide +kernel⟩
theorem vX7_isShape : VOK yX7_isShape := ⟨mT6 (i := 109) (by decide +kernel) rfl, mT0 (i := 42) (by decide +kernel) rfl⟩
theorem mX7_addShape : MOK yX7_addShape cX7_addShape 4 (some .int) 2 := ⟨mT1 (i := 6) (by decide +kernel) rfl, mT6 (i := 102) (by decide +kernel) rfl, by decide +kernel, by decide +kernel⟩
theorem vX7_addShape : VOK yX7_addShape := ⟨mT6 (i := 100) (by decide +kernel) rfl, mT6 (i := 101) (by decide +kernel) rfl⟩
theorem mX7_isLaid : MOK yX7_isLaid cX7_isLaid 4 (some .boolean) 1 := ⟨mT1 (i := 6) (by decide +kernel) rfl, mT6 (i := 114) (by decide +kernel) rfl, by decide +kernel, by decide +kernel⟩
theorem vX7_isLaid : VOK yX7_isLaid := ⟨mT6 (i := 113) (by decide +kernel) rfl, mT0 (i := 43) (by decide +kernel) rfl⟩
theorem mX7_addCell : MOK yX7_addCell cX7_addCell 6 (some .int) 3 := ⟨mT1 (i := 6) (by decide +kernel) rfl, mT6 (i := 106) (by decide +kernel) rfl, by decide +kernel, by decide +kernel⟩
theorem vX7_addCell : VOK yX7_addCell := ⟨mT6 (i := 104) (by decide +kernel) rfl, mT6 (i := 105) (by decide +kernel) rfl⟩
theorem mX7_setMark : MOK yX7_setMark cX7_setMark 7 (some .int) 4 := ⟨mT1 (i := 6) (by decide +kernel) rfl, mT6 (i := 118) (by decide +kernel) rfl, by decide +kernel, by decide +kernel⟩
theorem vX7_setMark : VOK yX7_setMark := ⟨mT6 (i := 116) (by decide +kernel) rfl, mT6 (i := 117) (by decide +kernel) rfl⟩
theorem mX7_cellsOf : MOK yX7_cellsOf cX7_cellsOf 2 (some .int) 1 := ⟨mT1 (i := 6) (by decide +kernel) rfl, mT6 (i := 122) (by decide +kernel) rfl, by decide +kernel, by decide +kernel⟩
theorem vX7_cellsOf : VOK yX7_cellsOf := ⟨mT6 (i := 120) (by decide +kernel) rfl, mT6 (i := 121) (by decide +kernel) rfl⟩
theorem mX7_turnedRow : MOK yX7_turnedRow cX7_turnedRow 3 (some .int) 3 := ⟨mT1 (i := 6) (by decide +kernel) rfl, mT6 (i := 141) (by decide +kernel) rfl, by decide +kernel, by decide +kernel⟩
theorem sX7_turnedRow : Cond.static yX7_turnedRow ∈ GW := mT6 (i := 140) (by decide +kernel) rfl
theorem mX7_turnedColumn : MOK yX7_turnedColumn cX7_turnedColumn 3 (some .int) 3 := ⟨mT1 (i := 6) (by decide +kernel) rfl, mT6 (i := 144) (by decide +kernel) rfl, by decide +kernel, by decide +kernel⟩
theorem sX7_turnedColumn : Cond.static yX7_turnedColumn ∈ GW := mT6 (i := 143) (by decide +kernel) rfl
theorem mX7_turns : MOK yX7_turns cX7_turns 8 none 3 := ⟨mT1 (i := 6) (by decide +kernel) rfl, mT6 (i := 138) (by decide +kernel) rfl, by decide +kernel, by decide +kernel⟩
theorem vX7_turns : VOK yX7_turns := ⟨mT6 (i := 137) (by decide +kernel) rfl, mT0 (i := 46) (by decide +kernel) rfl⟩
theorem mX7_mayTurn : MOK yX7_mayTurn cX7_mayTurn 3 (some .boolean) 2 := ⟨mT1 (i := 6) (by decide +kernel) rfl, mT6 (i := 134) (by decide +kernel) rfl, by decide +kernel, by decide +kernel⟩
theorem vX7_mayTurn : VOK yX7_mayTurn := ⟨mT6 (i := 133) (by decide +kernel) rfl, mT0 (i := 45) (by decide +kernel) rfl⟩
theorem mX7_isMarked : MOK yX7_isMarked cX7_isMarked 2 (some .boolean) 1 := ⟨mT1 (i := 6) (by decide +kernel) rfl, mT6 (i := 160) (by decide +kernel) rfl, by decide +kernel, by decide +kernel⟩
theorem vX7_isMarked : VOK yX7_isMarked := ⟨mT6 (i := 159) (by decide +kernel) rfl, mT0 (i := 50) (by decide +kernel) rfl⟩
theorem mX7_remainder : MOK yX7_remainder cX7_remainder 3 (some .int) 1 := ⟨mT1 (i := 6) (by decide +kernel) rfl, mT6 (i := 164) (by decide +kernel) rfl, by decide +kernel, by decide +kernel⟩
theorem vX7_remainder : VOK yX7_remainder := ⟨mT6 (i := 163) (by decide +kernel) rfl, mT0 (i := 51) (by decide +kernel) rfl⟩
theorem mX7_worst : MOK yX7_worst cX7_worst 8 (some .int) 2 := ⟨mT1 (i := 6) (by decide +kernel) rfl, mT6 (i := 148) (by decide +kernel) rfl, by decide +kernel, by decide +kernel⟩
theorem vX7_worst : VOK yX7_worst := ⟨mT6 (i := 147) (by decide +kernel) rfl, mT0 (i := 47) (by decide +kernel) rfl⟩
theorem mX7_reasonFor : MOK yX7_reasonFor cX7_reasonFor 8 (some .char) 5 := ⟨mT1 (i := 6) (by decide +kernel) rfl, mT6 (i := 130) (by decide +kernel) rfl, by decide +kernel, by decide +kernel⟩
theorem vX7_reasonFor : VOK yX7_reasonFor := ⟨mT6 (i := 129) (by decide +kernel) rfl, mT0 (i := 44) (by decide +kernel) rfl⟩
theorem mX7_puts : MOK yX7_puts cX7_puts 7 (some .int) 5 := ⟨mT1 (i := 6) (by decide +kernel) rfl, mT6 (i := 168) (by decide +kernel) rfl, by decide +kernel, by decide +kernel⟩
theorem vX7_puts : VOK yX7_puts := ⟨mT6 (i := 167) (by decide +kernel) rfl, mT0 (i := 52) (by decide +kernel) rfl⟩
theorem mX7_takes : MOK yX7_takes cX7_takes 4 none 1 := ⟨mT1 (i := 6) (by decide +kernel) rfl, mT6 (i := 192) (by decide +kernel) rfl, by decide +kernel, by decide +kernel⟩
theorem vX7_takes : VOK yX7_takes := ⟨mT6 (i := 191) (by decide +kernel) rfl, mT0 (i := 55) (by decide +kernel) rfl⟩
theorem mX7_lay : MOK yX7_lay cX7_lay 6 (some .int) 5 := ⟨mT1 (i := 6) (by decide +kernel) rfl, mT6 (i := 126) (by decide +kernel) rfl, by decide +kernel, by decide +kernel⟩
theorem vX7_lay : VOK yX7_lay := ⟨mT6 (i := 124) (by decide +kernel) rfl, mT6 (i := 125) (by decide +kernel) rfl⟩
theorem mX7_reason : MOK yX7_reason cX7_reason 6 (some .char) 5 := ⟨mT1 (i := 6) (by decide +kernel) rfl, mT6 (i := 172) (by decide +kernel) rfl, by decide +kernel, by decide +kernel⟩
theorem vX7_reason : VOK yX7_reason := ⟨mT6 (i := 170) (by decide +kernel) rfl, mT6 (i := 171) (by decide +kernel) rfl⟩
theorem mX7_isNested : MOK yX7_isNested cX7_isNested 4 (some .boolean) 2 := ⟨mT1 (i := 6) (by decide +kernel) rfl, mT6 (i := 180) (by decide +kernel) rfl, by decide +kernel, by decide +kernel⟩
theorem vX7_isNested : VOK yX7_isNested := ⟨mT6 (i := 179) (by decide +kernel) rfl, mT0 (i := 53) (by decide +kernel) rfl⟩
theorem mX7_nest : MOK yX7_nest cX7_nest 3 (some .int) 2 := ⟨mT1 (i := 6) (by decide +kernel) rfl, mT6 (i := 176) (by decide +kernel) rfl, by decide +kernel, by decide +kernel⟩
theorem vX7_nest : VOK yX7_nest := ⟨mT6 (i := 174) (by decide +kernel) rfl, mT6 (i := 175) (by decide +kernel) rfl⟩
theorem mX7_placeOf : MOK yX7_placeOf cX7_placeOf 4 (some .int) 1 := ⟨mT1 (i := 6) (by decide +kernel) rfl, mT6 (i := 188) (by decide +kernel) rfl, by decide +kernel, by decide +kernel⟩
theorem vX7_placeOf : VOK yX7_placeOf := ⟨mT6 (i := 187) (by decide +kernel) rfl, mT0 (i := 54) (by decide +kernel) rfl⟩
theorem mX7_longest : MOK yX7_longest cX7_longest 3 (some .int) 0 := ⟨mT1 (i := 6) (by decide +kernel) rfl, mT6 (i := 196) (by decide +kernel) rfl, by decide +kernel, by decide +kernel⟩
theorem vX7_longest : VOK yX7_longest := ⟨mT6 (i := 195) (by decide +kernel) rfl, mT0 (i := 56) (by decide +kernel) rfl⟩
theorem mX7_takeOff : MOK yX7_takeOff cX7_takeOff 2 (some .int) 1 := ⟨mT1 (i := 6) (by decide +kernel) rfl, mT6 (i := 184) (by decide +kernel) rfl, by decide +kernel, by decide +kernel⟩
theorem vX7_takeOff : VOK yX7_takeOff := ⟨mT6 (i := 182) (by decide +kernel) rfl, mT6 (i := 183) (by decide +kernel) rfl⟩
theorem mX7_clear : MOK yX7_clear cX7_clear 2 (some .int) 0 := ⟨mT1 (i := 6) (by decide +kernel) rfl, mT6 (i := 200) (by decide +kernel) rfl, by decide +kernel, by decide +kernel⟩
theorem vX7_clear : VOK yX7_clear := ⟨mT6 (i := 198) (by decide +kernel) rfl, mT6 (i := 199) (by decide +kernel) rfl⟩
theorem mX7_inMarker : MOK yX7_inMarker cX7_inMarker 1 (some .int) 0 := ⟨mT1 (i := 6) (by decide +kernel) rfl, mT6 (i := 204) (by decide +kernel) rfl, by decide +kernel, by decide +kernel⟩
theorem vX7_inMarker : VOK yX7_inMarker := ⟨mT6 (i := 202) (by decide +kernel) rfl, mT6 (i := 203) (by decide +kernel) rfl⟩
theorem mX7_rowOf : MOK yX7_rowOf cX7_rowOf 2 (some .int) 1 := ⟨mT1 (i := 6) (by decide +kernel) rfl, mT6 (i := 208) (by decide +kernel) rfl, by decide +kernel, by decide +kernel⟩
theorem vX7_rowOf : VOK yX7_rowOf := ⟨mT6 (i := 206) (by decide +kernel) rfl, mT6 (i := 207) (by decide +kernel) rfl⟩
theorem mX7_columnOf : MOK yX7_columnOf cX7_columnOf 2 (some .int) 1 := ⟨mT1 (i := 6) (by decide +kernel) rfl, mT6 (i := 212) (by decide +kernel) rfl, by decide +kernel, by decide +kernel⟩
theorem vX7_columnOf : VOK yX7_columnOf := ⟨mT6 (i := 210) (by decide +kernel) rfl, mT6 (i := 211) (by decide +kernel) rfl⟩
theorem mX7_turnsOf : MOK yX7_turnsOf cX7_turnsOf 2 (some .int) 1 := ⟨mT1 (i := 6) (by decide +kernel) rfl, mT6 (i := 216) (by decide +kernel) rfl, by decide +kernel, by decide +kernel⟩
theorem vX7_turnsOf : VOK yX7_turnsOf := ⟨mT6 (i := 214) (by decide +kernel) rfl, mT6 (i := 215) (by decide +kernel) rfl⟩
theorem mX7_pieceAt : MOK yX7_pieceAt cX7_pieceAt 4 (some .int) 2 := ⟨mT1 (i := 6) (by decide +kernel) rfl, mT6 (i := 220) (by decide +kernel) rfl, by decide +kernel, by decide +kernel⟩
theorem vX7_pieceAt : VOK yX7_pieceAt := ⟨mT6 (i := 218) (by decide +kernel) rfl, mT6 (i := 219) (by decide +kernel) rfl⟩
theorem mX7_pieceByPieces : MOK yX7_pieceByPieces cX7_pieceByPieces 3 (some .int) 2 := ⟨mT1 (i := 6) (by decide +kernel) rfl, mT6 (i := 224) (by decide +kernel) rfl, by decide +kernel, by decide +kernel⟩
theorem vX7_pieceByPieces : VOK yX7_pieceByPieces := ⟨mT6 (i := 222) (by decide +kernel) rfl, mT6 (i := 223) (by decide +kernel) rfl⟩
theorem mX7_length : MOK yX7_length cX7_length 1 (some .int) 0 := ⟨mT1 (i := 6) (by decide +kernel) rfl, mT6 (i := 229) (by decide +kernel) rfl, by decide +kernel, by decide +kernel⟩
theorem vX7_length : VOK yX7_length := ⟨mT6 (i := 227) (by decide +kernel) rfl, mT6 (i := 228) (by decide +kernel) rfl⟩
theorem mX7_cellsUsed : MOK yX7_cellsUsed cX7_cellsUsed 3 (some .int) 0 := ⟨mT1 (i := 6) (by decide +kernel) rfl, mT6 (i := 237) (by decide +kernel) rfl, by decide +kernel, by decide +kernel⟩
theorem vX7_cellsUsed : VOK yX7_cellsUsed := ⟨mT6 (i := 236) (by decide +kernel) rfl, mT0 (i := 57) (by decide +kernel) rfl⟩
theorem mX7_used : MOK yX7_used cX7_used 1 (some .int) 0 := ⟨mT1 (i := 6) (by decide +kernel) rfl, mT6 (i := 233) (by decide +kernel) rfl, by decide +kernel, by decide +kernel⟩
theorem vX7_used : VOK yX7_used := ⟨mT6 (i := 231) (by decide +kernel) rfl, mT6 (i := 232) (by decide +kernel) rfl⟩
theorem mX7_phase : MOK yX7_phase cX7_phase 2 (some .int) 1 := ⟨mT1 (i := 6) (by decide +kernel) rfl, mT7 (i := 1) (by decide +kernel) rfl, by decide +kernel, by decide +kernel⟩
theorem vX7_phase : VOK yX7_phase := ⟨mT6 (i := 239) (by decide +kernel) rfl, mT7 (i := 0) (by decide +kernel) rfl⟩
theorem mX7_isStyle : MOK yX7_isStyle cX7_isStyle 2 (some .boolean) 1 := ⟨mT1 (i := 6) (by decide +kernel) rfl, mT7 (i := 13) (by decide +kernel) rfl, by decide +kernel, by decide +kernel⟩
theorem vX7_isStyle : VOK yX7_isStyle := ⟨mT7 (i := 12) (by decide +kernel) rfl, mT0 (i := 58) (by decide +kernel) rfl⟩
theorem mX7_addStyle : MOK yX7_addStyle cX7_addStyle 1 (some .int) 0 := ⟨mT1 (i := 6) (by decide +kernel) rfl, mT7 (i := 5) (by decide +kernel) rfl, by decide +kernel, by decide +kernel⟩
theorem vX7_addStyle : VOK yX7_addStyle := ⟨mT7 (i := 3) (by decide +kernel) rfl, mT7 (i := 4) (by decide +kernel) rfl⟩
theorem mX7_takenBy : MOK yX7_takenBy cX7_takenBy 4 (some .int) 1 := ⟨mT1 (i := 6) (by decide +kernel) rfl, mT7 (i := 17) (by decide +kernel) rfl, by decide +kernel, by decide +kernel⟩
theorem vX7_takenBy : VOK yX7_takenBy := ⟨mT7 (i := 16) (by decide +kernel) rfl, mT0 (i := 59) (by decide +kernel) rfl⟩
theorem mX7_addPart : MOK yX7_addPart cX7_addPart 5 (some .int) 3 := ⟨mT1 (i := 6) (by decide +kernel) rfl, mT7 (i := 9) (by decide +kernel) rfl, by decide +kernel, by decide +kernel⟩
theorem vX7_addPart : VOK yX7_addPart := ⟨mT7 (i := 7) (by decide +kernel) rfl, mT7 (i := 8) (by decide +kernel) rfl⟩
theorem mX7_piecesFor : MOK yX7_piecesFor cX7_piecesFor 2 (some .int) 1 := ⟨mT1 (i := 6) (by decide +kernel) rfl, mT7 (i := 21) (by decide +kernel) rfl, by decide +kernel, by decide +kernel⟩
theorem vX7_piecesFor : VOK yX7_piecesFor := ⟨mT7 (i := 19) (by decide +kernel) rfl, mT7 (i := 20) (by decide +kernel) rfl⟩
theorem mX7_queues : MOK yX7_queues cX7_queues 8 (some .boolean) 1 := ⟨mT1 (i := 6) (by decide +kernel) rfl, mT7 (i := 29) (by decide +kernel) rfl, by decide +kernel, by decide +kernel⟩
theorem vX7_queues : VOK yX7_queues := ⟨mT7 (i := 28) (by decide +kernel) rfl, mT0 (i := 60) (by decide +kernel) rfl⟩
theorem mX7_tries : MOK yX7_tries cX7_tries 4 none 1 := ⟨mT1 (i := 6) (by decide +kernel) rfl, mT7 (i := 37) (by decide +kernel) rfl, by decide +kernel, by decide +kernel⟩
theorem vX7_tries : VOK yX7_tries := ⟨mT7 (i := 36) (by decide +kernel) rfl, mT0 (i := 62) (by decide +kernel) rfl⟩
theorem mX7_leastLength : MOK yX7_leastLength cX7_leastLength 5 (some .int) 0 := ⟨mT1 (i := 6) (by decide +kernel) rfl, mT7 (i := 33) (by decide +kernel) rfl, by decide +kernel, by decide +kernel⟩
theorem vX7_leastLength : VOK yX7_leastLength := ⟨mT7 (i := 32) (by decide +kernel) rfl, mT0 (i := 61) (by decide +kernel) rfl⟩
theorem mX7_nestedLength : MOK yX7_nestedLength cX7_nestedLength 3 (some .int) 1 := ⟨mT1 (i := 6) (by decide +kernel) rfl, mT7 (i := 25) (by decide +kernel) rfl, by decide +kernel, by decide +kernel⟩
theorem vX7_nestedLength : VOK yX7_nestedLength := ⟨mT7 (i := 23) (by decide +kernel) rfl, mT7 (i := 24) (by decide +kernel) rfl⟩
theorem mX7_nestedByTrying : MOK yX7_nestedByTrying cX7_nestedByTrying 2 (some .int) 1 := ⟨mT1 (i := 6) (by decide +kernel) rfl, mT7 (i := 41) (by decide +kernel) rfl, by decide +kernel, by decide +kernel⟩
theorem vX7_nestedByTrying : VOK yX7_nestedByTrying := ⟨mT7 (i := 39) (by decide +kernel) rfl, mT7 (i := 40) (by decide +kernel) rfl⟩
theorem mX7_addCloth : MOK yX7_addCloth cX7_addCloth 2 (some .int) 1 := ⟨mT1 (i := 6) (by decide +kernel) rfl, mT7 (i := 46) (by decide +kernel) rfl, by decide +kernel, by decide +kernel⟩
theorem vX7_addCloth : VOK yX7_addCloth := ⟨mT7 (i := 44) (by decide +kernel) rfl, mT7 (i := 45) (by decide +kernel) rfl⟩
theorem mX7_roll : MOK yX7_roll cX7_roll 1 (some .int) 0 := ⟨mT1 (i := 6) (by decide +kernel) rfl, mT7 (i := 51) (by decide +kernel) rfl, by decide +kernel, by decide +kernel⟩
theorem vX7_roll : VOK yX7_roll := ⟨mT7 (i := 49) (by decide +kernel) rfl, mT7 (i := 50) (by decide +kernel) rfl⟩
theorem mX7_givenBy : MOK yX7_givenBy cX7_givenBy 7 (some .int) 2 := ⟨mT1 (i := 6) (by decide +kernel) rfl, mT7 (i := 67) (by decide +kernel) rfl, by decide +kernel, by decide +kernel⟩
theorem vX7_givenBy : VOK yX7_givenBy := ⟨mT7 (i := 66) (by decide +kernel) rfl, mT0 (i := 65) (by decide +kernel) rfl⟩
theorem mX7_isMuch : MOK yX7_isMuch cX7_isMuch 4 (some .boolean) 1 := ⟨mT1 (i := 6) (by decide +kernel) rfl, mT7 (i := 63) (by decide +kernel) rfl, by decide +kernel, by decide +kernel⟩
theorem vX7_isMuch : VOK yX7_isMuch := ⟨mT7 (i := 62) (by decide +kernel) rfl, mT0 (i := 64) (by decide +kernel) rfl⟩
theorem mX7_takenFromRoll : MOK yX7_takenFromRoll cX7_takenFromRoll 2 (some .int) 1 := ⟨mT1 (i := 6) (by decide +kernel) rfl, mT7 (i := 59) (by decide +kernel) rfl, by decide +kernel, by decide +kernel⟩
theorem vX7_takenFromRoll : VOK yX7_takenFromRoll := ⟨mT7 (i := 58) (by decide +kernel) rfl, mT0 (i := 63) (by decide +kernel) rfl⟩
theorem mX7_spread : MOK yX7_spread cX7_spread 4 (some .int) 1 := ⟨mT1 (i := 6) (by decide +kernel) rfl, mT7 (i := 55) (by decide +kernel) rfl, by decide +kernel, by decide +kernel⟩
theorem vX7_spread : VOK yX7_spread := ⟨mT7 (i := 53) (by decide +kernel) rfl, mT7 (i := 54) (by decide +kernel) rfl⟩
theorem mX7_pieces : MOK yX7_pieces cX7_pieces 3 (some .int) 2 := ⟨mT1 (i := 6) (by decide +kernel) rfl, mT7 (i := 71) (by decide +kernel) rfl, by decide +kernel, by decide +kernel⟩
theorem vX7_pieces : VOK yX7_pieces := ⟨mT7 (i := 69) (by decide +kernel) rfl, mT7 (i := 70) (by decide +kernel) rfl⟩
theorem mX7_makes : MOK yX7_makes cX7_makes 8 (some .int) 2 := ⟨mT1 (i := 6) (by decide +kernel) rfl, mT7 (i := 79) (by decide +kernel) rfl, by decide +kernel, by decide +kernel⟩
theorem vX7_makes : VOK yX7_makes := ⟨mT7 (i := 78) (by decide +kernel) rfl, mT0 (i := 66) (by decide +kernel) rfl⟩
theorem mX7_canMake : MOK yX7_canMake cX7_canMake 2 (some .int) 1 := ⟨mT1 (i := 6) (by decide +kernel) rfl, mT7 (i := 75) (by decide +kernel) rfl, by decide +kernel, by decide +kernel⟩
theorem vX7_canMake : VOK yX7_canMake := ⟨mT7 (i := 73) (by decide +kernel) rfl, mT7 (i := 74) (by decide +kernel) rfl⟩
theorem mX7_canMakeByTaking : MOK yX7_canMakeByTaking cX7_canMakeByTaking 2 (some .int) 1 := ⟨mT1 (i := 6) (by decide +kernel) rfl, mT7 (i := 84) (by decide +kernel) rfl, by decide +kernel, by decide +kernel⟩
theorem vX7_canMakeByTaking : VOK yX7_canMakeByTaking := ⟨mT7 (i := 82) (by decide +kernel) rfl, mT7 (i := 83) (by decide +kernel) rfl⟩
theorem mX7_make : MOK yX7_make cX7_make 5 (some .int) 2 := ⟨mT1 (i := 6) (by decide +kernel) rfl, mT7 (i := 89) (by decide +kernel) rfl, by decide +kernel, by decide +kernel⟩
theorem vX7_make : VOK yX7_make := ⟨mT7 (i := 87) (by decide +kernel) rfl, mT7 (i := 88) (by decide +kernel) rfl⟩
theorem mX7_made : MOK yX7_made cX7_made 2 (some .int) 1 := ⟨mT1 (i := 6) (by decide +kernel) rfl, mT7 (i := 93) (by decide +kernel) rfl, by decide +kernel, by decide +kernel⟩
theorem vX7_made : VOK yX7_made := ⟨mT7 (i := 91) (by decide +kernel) rfl, mT7 (i := 92) (by decide +kernel) rfl⟩
theorem mX7_pliesFor : MOK yX7_pliesFor cX7_pliesFor 4 (some .int) 2 := ⟨mT1 (i := 6) (by decide +kernel) rfl, mT7 (i := 97) (by decide +kernel) rfl, by decide +kernel, by decide +kernel⟩
theorem vX7_pliesFor : VOK yX7_pliesFor := ⟨mT7 (i := 95) (by decide +kernel) rfl, mT7 (i := 96) (by decide +kernel) rfl⟩
theorem mX7_cut : MOK yX7_cut cX7_cut 1 (some .long) 0 := ⟨mT1 (i := 6) (by decide +kernel) rfl, mT7 (i := 101) (by decide +kernel) rfl, by decide +kernel, by decide +kernel⟩
theorem vX7_cut : VOK yX7_cut := ⟨mT7 (i := 99) (by decide +kernel) rfl, mT7 (i := 100) (by decide +kernel) rfl⟩
theorem mX7_density : MOK yX7_density cX7_density 1 (some .float) 0 := ⟨mT1 (i := 6) (by decide +kernel) rfl, mT7 (i := 105) (by decide +kernel) rfl, by decide +kernel, by decide +kernel⟩
theorem vX7_density : VOK yX7_density := ⟨mT7 (i := 103) (by decide +kernel) rfl, mT7 (i := 104) (by decide +kernel) rfl⟩
theorem mX7_meanCells : MOK yX7_meanCells cX7_meanCells 1 (some .double) 0 := ⟨mT1 (i := 6) (by decide +kernel) rfl, mT7 (i := 109) (by decide +kernel) rfl, by decide +kernel, by decide +kernel⟩
theorem vX7_meanCells : VOK yX7_meanCells := ⟨mT7 (i := 107) (by decide +kernel) rfl, mT7 (i := 108) (by decide +kernel) rfl⟩
theorem mX7_isSound : MOK yX7_isSound cX7_isSound 5 (some .boolean) 0 := ⟨mT1 (i := 6) (by decide +kernel) rfl, mT7 (i := 113) (by decide +kernel) rfl, by decide +kernel, by decide +kernel⟩
theorem vX7_isSound : VOK yX7_isSound := ⟨mT7 (i := 111) (by decide +kernel) rfl, mT7 (i := 112) (by decide +kernel) rfl⟩
theorem mJ9_floorMod_7cf53 : MOK yJ9_floorMod_7cf53 cJ9_floorMod_7cf53 3 (some .int) 2 := ⟨mT1 (i := 18) (by decide +kernel) rfl, mT3 (i := 197) (by decide +kernel) rfl, by decide +kernel, by decide +kernel⟩
theorem sJ9_floorMod_7cf53 : Cond.static yJ9_floorMod_7cf53 ∈ GW := mT3 (i := 196) (by decide +kernel) rfl
theorem mJ9_max_7cf53 : MOK yJ9_max_7cf53 cJ9_max_7cf53 2 (some .int) 2 := ⟨mT1 (i := 18) (by decide +kernel) rfl, mT4 (i := 57) (by decide +kernel) rfl, by decide +kernel, by decide +kernel⟩
theorem sJ9_max_7cf53 : Cond.static yJ9_max_7cf53 ∈ GW := mT4 (i := 56) (by decide +kernel) rfl
theorem mJ9_min_7cf53 : MOK yJ9_min_7cf53 cJ9_min_7cf53 2 (some .int) 2 := ⟨mT1 (i := 18) (by decide +kernel) rfl, mT4 (i := 202) (by decide +kernel) rfl, by decide +kernel, by decide +kernel⟩
theorem sJ9_min_7cf53 : Cond.static yJ9_min_7cf53 ∈ GW := mT4 (i := 201) (by decide +kernel) rfl
theorem mJ7_fill_53178 : MOK yJ7_fill_53178 cJ7_fill_53178 4 none 2 := ⟨mT1 (i := 5) (by decide +kernel) rfl, mT1 (i := 109) (by decide +kernel) rfl, by decide +kernel, by decide +kernel⟩
theorem sJ7_fill_53178 : Cond.static yJ7_fill_53178 ∈ GW := mT1 (i := 108) (by decide +kernel) rfl
theorem sL_setCloth : Cond.static yL_setCloth ∈ GW := mT2 (i := 34) (by decide +kernel) rfl
theorem sL_fold : Cond.static yL_fold ∈ GW := mT2 (i := 134) (by decide +kernel) rfl
theorem sL_addFlaw : Cond.static yL_addFlaw ∈ GW := mT2 (i := 146) (by decide +kernel) rfl
theorem sL_addShape : Cond.static yL_addShape ∈ GW := mT2 (i := 189) (by decide +kernel) rfl
theorem sL_addCell : Cond.static yL_addCell ∈ GW := mT3 (i := 36) (by decide +kernel) rfl
theorem sL_setMark : Cond.static yL_setMark ∈ GW := mT3 (i := 133) (by decide +kernel) rfl
theorem sL_cellsOf : Cond.static yL_cellsOf ∈ GW := mT3 (i := 146) (by decide +kernel) rfl
theorem sL_lay : Cond.static yL_lay ∈ GW := mT3 (i := 153) (by decide +kernel) rfl
theorem sL_reason : Cond.static yL_reason ∈ GW := mT3 (i := 222) (by decide +kernel) rfl
theorem sL_nest : Cond.static yL_nest ∈ GW := mT3 (i := 229) (by decide +kernel) rfl
theorem sL_takeOff : Cond.static yL_takeOff ∈ GW := mT4 (i := 24) (by decide +kernel) rfl
theorem sL_rowOf : Cond.static yL_rowOf ∈ GW := mT4 (i := 59) (by decide +kernel) rfl
theorem sL_columnOf : Cond.static yL_columnOf ∈ GW := mT4 (i := 66) (by decide +kernel) rfl
theorem sL_turnsOf : Cond.static yL_turnsOf ∈ GW := mT4 (i := 73) (by decide +kernel) rfl
theorem sL_pieceAt : Cond.static yL_pieceAt ∈ GW := mT4 (i := 80) (by decide +kernel) rfl
theorem sL_pieceByPieces : Cond.static yL_pieceByPieces ∈ GW := mT4 (i := 94) (by decide +kernel) rfl
theorem sL_phase : Cond.static yL_phase ∈ GW := mT4 (i := 114) (by decide +kernel) rfl
theorem sL_addStyle : Cond.static yL_addStyle ∈ GW := mT4 (i := 127) (by decide +kernel) rfl
theorem sL_addPart : Cond.static yL_addPart ∈ GW := mT4 (i := 148) (by decide +kernel) rfl
theorem sL_piecesFor : Cond.static yL_piecesFor ∈ GW := mT4 (i := 167) (by decide +kernel) rfl
theorem sL_nestedLength : Cond.static yL_nestedLength ∈ GW := mT4 (i := 174) (by decide +kernel) rfl
theorem sL_nestedByTrying : Cond.static yL_nestedByTrying ∈ GW := mT4 (i := 216) (by decide +kernel) rfl
theorem sL_addCloth : Cond.static yL_addCloth ∈ GW := mT4 (i := 231) (by decide +kernel) rfl
theorem sL_spread : Cond.static yL_spread ∈ GW := mT5 (i := 0) (by decide +kernel) rfl
theorem sL_pieces : Cond.static yL_pieces ∈ GW := mT5 (i := 27) (by decide +kernel) rfl
theorem sL_canMake : Cond.static yL_canMake ∈ GW := mT5 (i := 35) (by decide +kernel) rfl
theorem sL_canMakeByTaking : Cond.static yL_canMakeByTaking ∈ GW := mT5 (i := 60) (by decide +kernel) rfl
theorem sL_make : Cond.static yL_make ∈ GW := mT5 (i := 79) (by decide +kernel) rfl
theorem sL_made : Cond.static yL_made ∈ GW := mT5 (i := 95) (by decide +kernel) rfl
theorem sL_pliesFor : Cond.static yL_pliesFor ∈ GW := mT5 (i := 102) (by decide +kernel) rfl
theorem sL_density : Cond.static yL_density ∈ GW := mT5 (i := 118) (by decide +kernel) rfl
theorem sL_meanCells : Cond.static yL_meanCells ∈ GW := mT5 (i := 142) (by decide +kernel) rfl
theorem lk_X1_22 : Cond.methodLink RX1 22 yJ7_fill_53178 ∈ GW := mT1 (i := 107) (by decide +kernel) rfl
theorem lk_L_151 : Cond.methodLink RL 151 yX6_clearFlaws ∈ GW := mT1 (i := 176) (by decide +kernel) rfl
theorem lk_X6_118 : Cond.methodLink RX6 118 yX0_forgetFlaws ∈ GW := mT1 (i := 180) (by decide +kernel) rfl
theorem lk_X0_53 : Cond.methodLink RX0 53 yJ7_fill_53178 ∈ GW := mT1 (i := 184) (by decide +kernel) rfl
theorem lk_X0_35 : Cond.methodLink RX0 35 yX0_spoilRows ∈ GW := mT1 (i := 185) (by decide +kernel) rfl
theorem lk_X0_59 : Cond.methodLink RX0 59 yX0_reversed ∈ GW := mT1 (i := 192) (by decide +kernel) rfl
theorem lk_X0_63 : Cond.methodLink RX0 63 yX0_opposite ∈ GW := mT1 (i := 199) (by decide +kernel) rfl
theorem lk_L_185 : Cond.methodLink RL 185 yX6_clear ∈ GW := mT1 (i := 206) (by decide +kernel) rfl
theorem lk_X6_223 : Cond.methodLink RX6 223 yX1_empty ∈ GW := mT1 (i := 210) (by decide +kernel) rfl
theorem lk_L_189 : Cond.methodLink RL 189 yX6_inMarker ∈ GW := mT1 (i := 214) (by decide +kernel) rfl
theorem lk_L_208 : Cond.methodLink RL 208 yX6_length ∈ GW := mT1 (i := 218) (by decide +kernel) rfl
theorem lk_X6_219 : Cond.methodLink RX6 219 yX1_rowsUsed ∈ GW := mT1 (i := 222) (by decide +kernel) rfl
theorem lk_L_212 : Cond.methodLink RL 212 yX6_used ∈ GW := mT1 (i := 227) (by decide +kernel) rfl
theorem lk_X6_253 : Cond.methodLink RX6 253 yX1_cellsUsed ∈ GW := mT1 (i := 231) (by decide +kernel) rfl
theorem lk_X1_44 : Cond.methodLink RX1 44 yX1_pieceIn ∈ GW := mT1 (i := 235) (by decide +kernel) rfl
theorem lk_L_238 : Cond.methodLink RL 238 yX6_roll ∈ GW := mT1 (i := 239) (by decide +kernel) rfl
theorem lk_L_263 : Cond.methodLink RL 263 yX6_cut ∈ GW := mT2 (i := 3) (by decide +kernel) rfl
theorem lk_X6_169 : Cond.methodLink RX6 169 yX6_shapeNumbered ∈ GW := mT2 (i := 7) (by decide +kernel) rfl
theorem lk_L_275 : Cond.methodLink RL 275 yX6_isSound ∈ GW := mT2 (i := 11) (by decide +kernel) rfl
theorem lk_X6_442 : Cond.methodLink RX6 442 yX1_hasNoOverlap ∈ GW := mT2 (i := 15) (by decide +kernel) rfl
theorem lk_X1_187 : Cond.methodLink RX1 187 yX1_meetsAnew ∈ GW := mT2 (i := 19) (by decide +kernel) rfl
theorem lk_X6_445 : Cond.methodLink RX6 445 yX6_inGarments ∈ GW := mT2 (i := 24) (by decide +kernel) rfl
theorem lk_X6_308 : Cond.methodLink RX6 308 yX6_piecesOfPart ∈ GW := mT2 (i := 28) (by decide +kernel) rfl
theorem lk_X6_264 : Cond.methodLink RX6 264 yX6_entry ∈ GW := mT2 (i := 32) (by decide +kernel) rfl
theorem lk_L_134 : Cond.methodLink RL 134 yL_setCloth ∈ GW := mT2 (i := 33) (by decide +kernel) rfl
theorem lk_L_7 : Cond.methodLink RL 7 yX6_setCloth ∈ GW := mT2 (i := 38) (by decide +kernel) rfl
theorem lk_X6_48 : Cond.methodLink RX6 48 yX6_isWithin ∈ GW := mT2 (i := 42) (by decide +kernel) rfl
theorem lk_L_143 : Cond.methodLink RL 143 yL_fold ∈ GW := mT2 (i := 133) (by decide +kernel) rfl
theorem lk_L_17 : Cond.methodLink RL 17 yX6_fold ∈ GW := mT2 (i := 136) (by decide +kernel) rfl
theorem lk_X6_86 : Cond.methodLink RX6 86 yX0_foldOrOpen ∈ GW := mT2 (i := 141) (by decide +kernel) rfl
theorem lk_L_147 : Cond.methodLink RL 147 yL_addFlaw ∈ GW := mT2 (i := 145) (by decide +kernel) rfl
theorem lk_L_21 : Cond.methodLink RL 21 yX6_addFlaw ∈ GW := mT2 (i := 149) (by decide +kernel) rfl
theorem lk_X6_92 : Cond.methodLink RX6 92 yX6_isUnderPiece ∈ GW := mT2 (i := 154) (by decide +kernel) rfl
theorem lk_X6_110 : Cond.methodLink RX6 110 yX1_ownerOf ∈ GW := mT2 (i := 158) (by decide +kernel) rfl
theorem lk_X6_114 : Cond.methodLink RX6 114 yX0_opposite ∈ GW := mT2 (i := 162) (by decide +kernel) rfl
theorem lk_X6_101 : Cond.methodLink RX6 101 yX0_isTold ∈ GW := mT2 (i := 179) (by decide +kernel) rfl
theorem lk_X6_106 : Cond.methodLink RX6 106 yX0_tell ∈ GW := mT2 (i := 184) (by decide +kernel) rfl
theorem lk_L_155 : Cond.methodLink RL 155 yL_addShape ∈ GW := mT2 (i := 188) (by decide +kernel) rfl
theorem lk_L_27 : Cond.methodLink RL 27 yX6_addShape ∈ GW := mT2 (i := 191) (by decide +kernel) rfl
theorem lk_L_159 : Cond.methodLink RL 159 yL_addCell ∈ GW := mT3 (i := 35) (by decide +kernel) rfl
theorem lk_L_31 : Cond.methodLink RL 31 yX6_addCell ∈ GW := mT3 (i := 62) (by decide +kernel) rfl
theorem lk_X6_131 : Cond.methodLink RX6 131 yX6_shapeOrThrow ∈ GW := mT3 (i := 66) (by decide +kernel) rfl
theorem lk_X6_137 : Cond.methodLink RX6 137 yX4_hasCell ∈ GW := mT3 (i := 84) (by decide +kernel) rfl
theorem lk_X6_142 : Cond.methodLink RX6 142 yX1_holds ∈ GW := mT3 (i := 91) (by decide +kernel) rfl
theorem lk_X1_183 : Cond.methodLink RX1 183 yX1_countOf ∈ GW := mT3 (i := 95) (by decide +kernel) rfl
theorem lk_X6_152 : Cond.methodLink RX6 152 yX4_draw ∈ GW := mT3 (i := 100) (by decide +kernel) rfl
theorem lk_X4_51 : Cond.methodLink RX4 51 yX4_traceAll ∈ GW := mT3 (i := 105) (by decide +kernel) rfl
theorem lk_X4_60 : Cond.methodLink RX4 60 yX2_trace ∈ GW := mT3 (i := 109) (by decide +kernel) rfl
theorem lk_X2_23 : Cond.methodLink RX2 23 yJ7_fill_53178 ∈ GW := mT3 (i := 113) (by decide +kernel) rfl
theorem lk_X2_37 : Cond.methodLink RX2 37 yX2_turnedRow ∈ GW := mT3 (i := 116) (by decide +kernel) rfl
theorem lk_X2_41 : Cond.methodLink RX2 41 yX2_turnedColumn ∈ GW := mT3 (i := 120) (by decide +kernel) rfl
theorem lk_X6_449 : Cond.methodLink RX6 449 yX6_hasBit ∈ GW := mT3 (i := 128) (by decide +kernel) rfl
theorem lk_L_163 : Cond.methodLink RL 163 yL_setMark ∈ GW := mT3 (i := 132) (by decide +kernel) rfl
theorem lk_L_37 : Cond.methodLink RL 37 yX6_setMark ∈ GW := mT3 (i := 135) (by decide +kernel) rfl
theorem lk_X6_165 : Cond.methodLink RX6 165 yX4_mark ∈ GW := mT3 (i := 141) (by decide +kernel) rfl
theorem lk_L_167 : Cond.methodLink RL 167 yL_cellsOf ∈ GW := mT3 (i := 145) (by decide +kernel) rfl
theorem lk_L_41 : Cond.methodLink RL 41 yX6_cellsOf ∈ GW := mT3 (i := 148) (by decide +kernel) rfl
theorem lk_L_171 : Cond.methodLink RL 171 yL_lay ∈ GW := mT3 (i := 152) (by decide +kernel) rfl
theorem lk_L_45 : Cond.methodLink RL 45 yX6_lay ∈ GW := mT3 (i := 155) (by decide +kernel) rfl
theorem lk_X6_177 : Cond.methodLink RX6 177 yX6_checkTurns ∈ GW := mT3 (i := 159) (by decide +kernel) rfl
theorem lk_X6_181 : Cond.methodLink RX6 181 yX1_obstacle ∈ GW := mT3 (i := 163) (by decide +kernel) rfl
theorem lk_X1_55 : Cond.methodLink RX1 55 yX4_outlineFor ∈ GW := mT3 (i := 167) (by decide +kernel) rfl
theorem lk_X1_70 : Cond.methodLink RX1 70 yX4_canTurn ∈ GW := mT3 (i := 171) (by decide +kernel) rfl
theorem lk_X1_77 : Cond.methodLink RX1 77 yX4_canMirror ∈ GW := mT3 (i := 175) (by decide +kernel) rfl
theorem lk_X1_81 : Cond.methodLink RX1 81 yX0_reaches ∈ GW := mT3 (i := 179) (by decide +kernel) rfl
theorem lk_X0_75 : Cond.methodLink RX0 75 yX0_openColumns ∈ GW := mT3 (i := 184) (by decide +kernel) rfl
theorem lk_X1_88 : Cond.methodLink RX1 88 yX1_meetsAny ∈ GW := mT3 (i := 188) (by decide +kernel) rfl
theorem lk_X1_100 : Cond.methodLink RX1 100 yX0_remainder ∈ GW := mT3 (i := 191) (by decide +kernel) rfl
theorem lk_X0_29 : Cond.methodLink RX0 29 yJ9_floorMod_7cf53 ∈ GW := mT3 (i := 195) (by decide +kernel) rfl
theorem lk_X1_103 : Cond.methodLink RX1 103 yX1_stripesMeet ∈ GW := mT3 (i := 198) (by decide +kernel) rfl
theorem lk_X6_187 : Cond.methodLink RX6 187 yX1_isFull ∈ GW := mT3 (i := 203) (by decide +kernel) rfl
theorem lk_X6_193 : Cond.methodLink RX6 193 yX1_put ∈ GW := mT3 (i := 208) (by decide +kernel) rfl
theorem lk_X1_152 : Cond.methodLink RX1 152 yX1_cover ∈ GW := mT3 (i := 212) (by decide +kernel) rfl
theorem lk_X1_156 : Cond.methodLink RX1 156 yX1_join ∈ GW := mT3 (i := 217) (by decide +kernel) rfl
theorem lk_L_175 : Cond.methodLink RL 175 yL_reason ∈ GW := mT3 (i := 221) (by decide +kernel) rfl
theorem lk_L_49 : Cond.methodLink RL 49 yX6_reason ∈ GW := mT3 (i := 224) (by decide +kernel) rfl
theorem lk_L_178 : Cond.methodLink RL 178 yL_nest ∈ GW := mT3 (i := 228) (by decide +kernel) rfl
theorem lk_L_53 : Cond.methodLink RL 53 yX6_nest ∈ GW := mT3 (i := 232) (by decide +kernel) rfl
theorem lk_X6_199 : Cond.methodLink RX6 199 yX1_firstSpot ∈ GW := mT3 (i := 236) (by decide +kernel) rfl
theorem lk_X1_117 : Cond.methodLink RX1 117 yX0_openColumns ∈ GW := mT4 (i := 0) (by decide +kernel) rfl
theorem lk_X1_121 : Cond.methodLink RX1 121 yX1_obstacle ∈ GW := mT4 (i := 1) (by decide +kernel) rfl
theorem lk_X6_208 : Cond.methodLink RX6 208 yX1_putAtSpot ∈ GW := mT4 (i := 18) (by decide +kernel) rfl
theorem lk_X1_125 : Cond.methodLink RX1 125 yX1_put ∈ GW := mT4 (i := 22) (by decide +kernel) rfl
theorem lk_L_182 : Cond.methodLink RL 182 yL_takeOff ∈ GW := mT4 (i := 23) (by decide +kernel) rfl
theorem lk_L_59 : Cond.methodLink RL 59 yX6_takeOff ∈ GW := mT4 (i := 26) (by decide +kernel) rfl
theorem lk_X6_212 : Cond.methodLink RX6 212 yX6_pieceOrThrow ∈ GW := mT4 (i := 30) (by decide +kernel) rfl
theorem lk_X6_237 : Cond.methodLink RX6 237 yX1_pieceNumbered ∈ GW := mT4 (i := 34) (by decide +kernel) rfl
theorem lk_X1_51 : Cond.methodLink RX1 51 yX1_slotOf ∈ GW := mT4 (i := 38) (by decide +kernel) rfl
theorem lk_X6_216 : Cond.methodLink RX6 216 yX1_remove ∈ GW := mT4 (i := 43) (by decide +kernel) rfl
theorem lk_X1_167 : Cond.methodLink RX1 167 yX1_leave ∈ GW := mT4 (i := 47) (by decide +kernel) rfl
theorem lk_X1_171 : Cond.methodLink RX1 171 yX1_moveToEnd ∈ GW := mT4 (i := 51) (by decide +kernel) rfl
theorem lk_X1_174 : Cond.methodLink RX1 174 yJ9_max_7cf53 ∈ GW := mT4 (i := 55) (by decide +kernel) rfl
theorem lk_L_193 : Cond.methodLink RL 193 yL_rowOf ∈ GW := mT4 (i := 58) (by decide +kernel) rfl
theorem lk_L_62 : Cond.methodLink RL 62 yX6_rowOf ∈ GW := mT4 (i := 61) (by decide +kernel) rfl
theorem lk_L_196 : Cond.methodLink RL 196 yL_columnOf ∈ GW := mT4 (i := 65) (by decide +kernel) rfl
theorem lk_L_65 : Cond.methodLink RL 65 yX6_columnOf ∈ GW := mT4 (i := 68) (by decide +kernel) rfl
theorem lk_L_199 : Cond.methodLink RL 199 yL_turnsOf ∈ GW := mT4 (i := 72) (by decide +kernel) rfl
theorem lk_L_68 : Cond.methodLink RL 68 yX6_turnsOf ∈ GW := mT4 (i := 75) (by decide +kernel) rfl
theorem lk_L_202 : Cond.methodLink RL 202 yL_pieceAt ∈ GW := mT4 (i := 79) (by decide +kernel) rfl
theorem lk_L_71 : Cond.methodLink RL 71 yX6_pieceAt ∈ GW := mT4 (i := 82) (by decide +kernel) rfl
theorem lk_X6_242 : Cond.methodLink RX6 242 yX6_checkCell ∈ GW := mT4 (i := 86) (by decide +kernel) rfl
theorem lk_X6_245 : Cond.methodLink RX6 245 yX6_numberOrThrow ∈ GW := mT4 (i := 89) (by decide +kernel) rfl
theorem lk_L_205 : Cond.methodLink RL 205 yL_pieceByPieces ∈ GW := mT4 (i := 93) (by decide +kernel) rfl
theorem lk_L_74 : Cond.methodLink RL 74 yX6_pieceByPieces ∈ GW := mT4 (i := 96) (by decide +kernel) rfl
theorem lk_X6_248 : Cond.methodLink RX6 248 yX1_ownerByPieces ∈ GW := mT4 (i := 100) (by decide +kernel) rfl
theorem lk_X1_180 : Cond.methodLink RX1 180 yX3_covers ∈ GW := mT4 (i := 104) (by decide +kernel) rfl
theorem lk_X3_20 : Cond.methodLink RX3 20 yX2_hasCell ∈ GW := mT4 (i := 108) (by decide +kernel) rfl
theorem lk_L_216 : Cond.methodLink RL 216 yL_phase ∈ GW := mT4 (i := 113) (by decide +kernel) rfl
theorem lk_L_77 : Cond.methodLink RL 77 yX6_phase ∈ GW := mT4 (i := 116) (by decide +kernel) rfl
theorem lk_X6_258 : Cond.methodLink RX6 258 yX0_isStriped ∈ GW := mT4 (i := 121) (by decide +kernel) rfl
theorem lk_L_219 : Cond.methodLink RL 219 yL_addStyle ∈ GW := mT4 (i := 126) (by decide +kernel) rfl
theorem lk_L_80 : Cond.methodLink RL 80 yX6_addStyle ∈ GW := mT4 (i := 129) (by decide +kernel) rfl
theorem lk_L_223 : Cond.methodLink RL 223 yL_addPart ∈ GW := mT4 (i := 147) (by decide +kernel) rfl
theorem lk_L_84 : Cond.methodLink RL 84 yX6_addPart ∈ GW := mT4 (i := 150) (by decide +kernel) rfl
theorem lk_X6_279 : Cond.methodLink RX6 279 yX6_styleOrThrow ∈ GW := mT4 (i := 154) (by decide +kernel) rfl
theorem lk_X6_293 : Cond.methodLink RX6 293 yX6_store ∈ GW := mT4 (i := 161) (by decide +kernel) rfl
theorem lk_X6_297 : Cond.methodLink RX6 297 yX6_piecesOfGarment ∈ GW := mT4 (i := 162) (by decide +kernel) rfl
theorem lk_L_226 : Cond.methodLink RL 226 yL_piecesFor ∈ GW := mT4 (i := 166) (by decide +kernel) rfl
theorem lk_L_87 : Cond.methodLink RL 87 yX6_piecesFor ∈ GW := mT4 (i := 169) (by decide +kernel) rfl
theorem lk_L_229 : Cond.methodLink RL 229 yL_nestedLength ∈ GW := mT4 (i := 173) (by decide +kernel) rfl
theorem lk_L_90 : Cond.methodLink RL 90 yX6_nestedLength ∈ GW := mT4 (i := 176) (by decide +kernel) rfl
theorem lk_X6_315 : Cond.methodLink RX6 315 yX6_wantPieces ∈ GW := mT4 (i := 180) (by decide +kernel) rfl
theorem lk_X6_334 : Cond.methodLink RX6 334 yX6_plainToNest ∈ GW := mT4 (i := 184) (by decide +kernel) rfl
theorem lk_X6_337 : Cond.methodLink RX6 337 yX6_mirroredToNest ∈ GW := mT4 (i := 188) (by decide +kernel) rfl
theorem lk_X6_340 : Cond.methodLink RX6 340 yX6_kindOf ∈ GW := mT4 (i := 192) (by decide +kernel) rfl
theorem lk_X6_318 : Cond.methodLink RX6 318 yX6_shortest ∈ GW := mT4 (i := 196) (by decide +kernel) rfl
theorem lk_X6_327 : Cond.methodLink RX6 327 yJ9_min_7cf53 ∈ GW := mT4 (i := 200) (by decide +kernel) rfl
theorem lk_X6_346 : Cond.methodLink RX6 346 yX6_shortestWith ∈ GW := mT4 (i := 203) (by decide +kernel) rfl
theorem lk_X6_350 : Cond.methodLink RX6 350 yX6_nestInTrial ∈ GW := mT4 (i := 207) (by decide +kernel) rfl
theorem lk_X6_321 : Cond.methodLink RX6 321 yX6_lengthOrThrow ∈ GW := mT4 (i := 211) (by decide +kernel) rfl
theorem lk_L_232 : Cond.methodLink RL 232 yL_nestedByTrying ∈ GW := mT4 (i := 215) (by decide +kernel) rfl
theorem lk_L_93 : Cond.methodLink RL 93 yX6_nestedByTrying ∈ GW := mT4 (i := 218) (by decide +kernel) rfl
theorem lk_X6_324 : Cond.methodLink RX6 324 yX6_lengthInOrder ∈ GW := mT4 (i := 222) (by decide +kernel) rfl
theorem lk_X6_353 : Cond.methodLink RX6 353 yX6_fillQueue ∈ GW := mT4 (i := 226) (by decide +kernel) rfl
theorem lk_L_235 : Cond.methodLink RL 235 yL_addCloth ∈ GW := mT4 (i := 230) (by decide +kernel) rfl
theorem lk_L_96 : Cond.methodLink RL 96 yX6_addCloth ∈ GW := mT4 (i := 233) (by decide +kernel) rfl
theorem lk_L_242 : Cond.methodLink RL 242 yL_spread ∈ GW := mT4 (i := 239) (by decide +kernel) rfl
theorem lk_L_99 : Cond.methodLink RL 99 yX6_spread ∈ GW := mT5 (i := 2) (by decide +kernel) rfl
theorem lk_X6_366 : Cond.methodLink RX6 366 yX6_stockHolds ∈ GW := mT5 (i := 8) (by decide +kernel) rfl
theorem lk_X6_379 : Cond.methodLink RX6 379 yX6_perPly ∈ GW := mT5 (i := 12) (by decide +kernel) rfl
theorem lk_X6_389 : Cond.methodLink RX6 389 yX1_countOf ∈ GW := mT5 (i := 16) (by decide +kernel) rfl
theorem lk_X6_372 : Cond.methodLink RX6 372 yX6_cutPlies ∈ GW := mT5 (i := 18) (by decide +kernel) rfl
theorem lk_X6_386 : Cond.methodLink RX6 386 yX4_receive ∈ GW := mT5 (i := 22) (by decide +kernel) rfl
theorem lk_L_245 : Cond.methodLink RL 245 yL_pieces ∈ GW := mT5 (i := 26) (by decide +kernel) rfl
theorem lk_L_102 : Cond.methodLink RL 102 yX6_pieces ∈ GW := mT5 (i := 29) (by decide +kernel) rfl
theorem lk_L_248 : Cond.methodLink RL 248 yL_canMake ∈ GW := mT5 (i := 34) (by decide +kernel) rfl
theorem lk_L_105 : Cond.methodLink RL 105 yX6_canMake ∈ GW := mT5 (i := 37) (by decide +kernel) rfl
theorem lk_X6_394 : Cond.methodLink RX6 394 yX6_styleWithPartsOrThrow ∈ GW := mT5 (i := 41) (by decide +kernel) rfl
theorem lk_X6_303 : Cond.methodLink RX6 303 yX5_hasParts ∈ GW := mT5 (i := 45) (by decide +kernel) rfl
theorem lk_X6_397 : Cond.methodLink RX6 397 yX6_garmentsInStock ∈ GW := mT5 (i := 50) (by decide +kernel) rfl
theorem lk_X6_400 : Cond.methodLink RX6 400 yX4_whole ∈ GW := mT5 (i := 54) (by decide +kernel) rfl
theorem lk_X4_69 : Cond.methodLink RX4 69 yJ9_min_7cf53 ∈ GW := mT5 (i := 58) (by decide +kernel) rfl
theorem lk_L_251 : Cond.methodLink RL 251 yL_canMakeByTaking ∈ GW := mT5 (i := 59) (by decide +kernel) rfl
theorem lk_L_108 : Cond.methodLink RL 108 yX6_canMakeByTaking ∈ GW := mT5 (i := 62) (by decide +kernel) rfl
theorem lk_X6_403 : Cond.methodLink RX6 403 yX6_takesGarment ∈ GW := mT5 (i := 66) (by decide +kernel) rfl
theorem lk_X6_407 : Cond.methodLink RX6 407 yX6_takesPart ∈ GW := mT5 (i := 70) (by decide +kernel) rfl
theorem lk_X6_411 : Cond.methodLink RX6 411 yX6_takesKind ∈ GW := mT5 (i := 74) (by decide +kernel) rfl
theorem lk_L_254 : Cond.methodLink RL 254 yL_make ∈ GW := mT5 (i := 78) (by decide +kernel) rfl
theorem lk_L_111 : Cond.methodLink RL 111 yX6_make ∈ GW := mT5 (i := 81) (by decide +kernel) rfl
theorem lk_X6_414 : Cond.methodLink RX6 414 yX6_checkGarments ∈ GW := mT5 (i := 85) (by decide +kernel) rfl
theorem lk_X6_419 : Cond.methodLink RX6 419 yX4_giveAway ∈ GW := mT5 (i := 90) (by decide +kernel) rfl
theorem lk_L_257 : Cond.methodLink RL 257 yL_made ∈ GW := mT5 (i := 94) (by decide +kernel) rfl
theorem lk_L_114 : Cond.methodLink RL 114 yX6_made ∈ GW := mT5 (i := 97) (by decide +kernel) rfl
theorem lk_L_260 : Cond.methodLink RL 260 yL_pliesFor ∈ GW := mT5 (i := 101) (by decide +kernel) rfl
theorem lk_L_117 : Cond.methodLink RL 117 yX6_pliesFor ∈ GW := mT5 (i := 104) (by decide +kernel) rfl
theorem lk_X6_424 : Cond.methodLink RX6 424 yX6_pliesForPart ∈ GW := mT5 (i := 108) (by decide +kernel) rfl
theorem lk_X6_433 : Cond.methodLink RX6 433 yX6_pliesForSort ∈ GW := mT5 (i := 112) (by decide +kernel) rfl
theorem lk_X6_430 : Cond.methodLink RX6 430 yJ9_max_7cf53 ∈ GW := mT5 (i := 115) (by decide +kernel) rfl
theorem lk_L_268 : Cond.methodLink RL 268 yL_density ∈ GW := mT5 (i := 117) (by decide +kernel) rfl
theorem lk_L_120 : Cond.methodLink RL 120 yX6_density ∈ GW := mT5 (i := 134) (by decide +kernel) rfl
theorem lk_X6_436 : Cond.methodLink RX6 436 yX0_openColumns ∈ GW := mT5 (i := 138) (by decide +kernel) rfl
theorem lk_L_272 : Cond.methodLink RL 272 yL_meanCells ∈ GW := mT5 (i := 141) (by decide +kernel) rfl
theorem lk_L_126 : Cond.methodLink RL 126 yX6_meanCells ∈ GW := mT5 (i := 144) (by decide +kernel) rfl
theorem lk_X7_106 : Cond.methodLink RX7 106 yX7_empties ∈ GW := mT5 (i := 154) (by decide +kernel) rfl
theorem lk_L_140 : Cond.methodLink RL 140 yX7_thrown ∈ GW := mT6 (i := 68) (by decide +kernel) rfl
theorem lk_L_139 : Cond.methodLink RL 139 yX7_setCloth ∈ GW := mT6 (i := 72) (by decide +kernel) rfl
theorem lk_X7_122 : Cond.methodLink RX7 122 yX7_in ∈ GW := mT6 (i := 76) (by decide +kernel) rfl
theorem lk_X7_129 : Cond.methodLink RX7 129 yX7_fails ∈ GW := mT6 (i := 79) (by decide +kernel) rfl
theorem lk_L_146 : Cond.methodLink RL 146 yX7_fold ∈ GW := mT6 (i := 83) (by decide +kernel) rfl
theorem lk_L_150 : Cond.methodLink RL 150 yX7_addFlaw ∈ GW := mT6 (i := 87) (by decide +kernel) rfl
theorem lk_X7_139 : Cond.methodLink RX7 139 yX7_isUnderPiece ∈ GW := mT6 (i := 91) (by decide +kernel) rfl
theorem lk_L_154 : Cond.methodLink RL 154 yX7_clearFlaws ∈ GW := mT6 (i := 95) (by decide +kernel) rfl
theorem lk_L_158 : Cond.methodLink RL 158 yX7_addShape ∈ GW := mT6 (i := 99) (by decide +kernel) rfl
theorem lk_L_162 : Cond.methodLink RL 162 yX7_addCell ∈ GW := mT6 (i := 103) (by decide +kernel) rfl
theorem lk_X7_146 : Cond.methodLink RX7 146 yX7_isShape ∈ GW := mT6 (i := 107) (by decide +kernel) rfl
theorem lk_X7_149 : Cond.methodLink RX7 149 yX7_isLaid ∈ GW := mT6 (i := 111) (by decide +kernel) rfl
theorem lk_L_166 : Cond.methodLink RL 166 yX7_setMark ∈ GW := mT6 (i := 115) (by decide +kernel) rfl
theorem lk_L_170 : Cond.methodLink RL 170 yX7_cellsOf ∈ GW := mT6 (i := 119) (by decide +kernel) rfl
theorem lk_L_174 : Cond.methodLink RL 174 yX7_lay ∈ GW := mT6 (i := 123) (by decide +kernel) rfl
theorem lk_X7_190 : Cond.methodLink RX7 190 yX7_reasonFor ∈ GW := mT6 (i := 127) (by decide +kernel) rfl
theorem lk_X7_172 : Cond.methodLink RX7 172 yX7_mayTurn ∈ GW := mT6 (i := 131) (by decide +kernel) rfl
theorem lk_X7_175 : Cond.methodLink RX7 175 yX7_turns ∈ GW := mT6 (i := 135) (by decide +kernel) rfl
theorem lk_X7_155 : Cond.methodLink RX7 155 yX7_turnedRow ∈ GW := mT6 (i := 139) (by decide +kernel) rfl
theorem lk_X7_159 : Cond.methodLink RX7 159 yX7_turnedColumn ∈ GW := mT6 (i := 142) (by decide +kernel) rfl
theorem lk_X7_179 : Cond.methodLink RX7 179 yX7_worst ∈ GW := mT6 (i := 145) (by decide +kernel) rfl
theorem lk_X7_165 : Cond.methodLink RX7 165 yX7_columns ∈ GW := mT6 (i := 149) (by decide +kernel) rfl
theorem lk_X7_169 : Cond.methodLink RX7 169 yX7_isBad ∈ GW := mT6 (i := 153) (by decide +kernel) rfl
theorem lk_X7_183 : Cond.methodLink RX7 183 yX7_isMarked ∈ GW := mT6 (i := 157) (by decide +kernel) rfl
theorem lk_X7_186 : Cond.methodLink RX7 186 yX7_remainder ∈ GW := mT6 (i := 161) (by decide +kernel) rfl
theorem lk_X7_194 : Cond.methodLink RX7 194 yX7_puts ∈ GW := mT6 (i := 165) (by decide +kernel) rfl
theorem lk_L_177 : Cond.methodLink RL 177 yX7_reason ∈ GW := mT6 (i := 169) (by decide +kernel) rfl
theorem lk_L_181 : Cond.methodLink RL 181 yX7_nest ∈ GW := mT6 (i := 173) (by decide +kernel) rfl
theorem lk_X7_207 : Cond.methodLink RX7 207 yX7_isNested ∈ GW := mT6 (i := 177) (by decide +kernel) rfl
theorem lk_L_184 : Cond.methodLink RL 184 yX7_takeOff ∈ GW := mT6 (i := 181) (by decide +kernel) rfl
theorem lk_X7_211 : Cond.methodLink RX7 211 yX7_placeOf ∈ GW := mT6 (i := 185) (by decide +kernel) rfl
theorem lk_X7_214 : Cond.methodLink RX7 214 yX7_takes ∈ GW := mT6 (i := 189) (by decide +kernel) rfl
theorem lk_X7_218 : Cond.methodLink RX7 218 yX7_longest ∈ GW := mT6 (i := 193) (by decide +kernel) rfl
theorem lk_L_188 : Cond.methodLink RL 188 yX7_clear ∈ GW := mT6 (i := 197) (by decide +kernel) rfl
theorem lk_L_192 : Cond.methodLink RL 192 yX7_inMarker ∈ GW := mT6 (i := 201) (by decide +kernel) rfl
theorem lk_L_195 : Cond.methodLink RL 195 yX7_rowOf ∈ GW := mT6 (i := 205) (by decide +kernel) rfl
theorem lk_L_198 : Cond.methodLink RL 198 yX7_columnOf ∈ GW := mT6 (i := 209) (by decide +kernel) rfl
theorem lk_L_201 : Cond.methodLink RL 201 yX7_turnsOf ∈ GW := mT6 (i := 213) (by decide +kernel) rfl
theorem lk_L_204 : Cond.methodLink RL 204 yX7_pieceAt ∈ GW := mT6 (i := 217) (by decide +kernel) rfl
theorem lk_L_207 : Cond.methodLink RL 207 yX7_pieceByPieces ∈ GW := mT6 (i := 221) (by decide +kernel) rfl
theorem lk_X7_221 : Cond.methodLink RX7 221 yX7_pieceAt ∈ GW := mT6 (i := 225) (by decide +kernel) rfl
theorem lk_L_211 : Cond.methodLink RL 211 yX7_length ∈ GW := mT6 (i := 226) (by decide +kernel) rfl
theorem lk_L_215 : Cond.methodLink RL 215 yX7_used ∈ GW := mT6 (i := 230) (by decide +kernel) rfl
theorem lk_X7_224 : Cond.methodLink RX7 224 yX7_cellsUsed ∈ GW := mT6 (i := 234) (by decide +kernel) rfl
theorem lk_L_218 : Cond.methodLink RL 218 yX7_phase ∈ GW := mT6 (i := 238) (by decide +kernel) rfl
theorem lk_L_222 : Cond.methodLink RL 222 yX7_addStyle ∈ GW := mT7 (i := 2) (by decide +kernel) rfl
theorem lk_L_225 : Cond.methodLink RL 225 yX7_addPart ∈ GW := mT7 (i := 6) (by decide +kernel) rfl
theorem lk_X7_230 : Cond.methodLink RX7 230 yX7_isStyle ∈ GW := mT7 (i := 10) (by decide +kernel) rfl
theorem lk_X7_233 : Cond.methodLink RX7 233 yX7_takenBy ∈ GW := mT7 (i := 14) (by decide +kernel) rfl
theorem lk_L_228 : Cond.methodLink RL 228 yX7_piecesFor ∈ GW := mT7 (i := 18) (by decide +kernel) rfl
theorem lk_L_231 : Cond.methodLink RL 231 yX7_nestedLength ∈ GW := mT7 (i := 22) (by decide +kernel) rfl
theorem lk_X7_245 : Cond.methodLink RX7 245 yX7_queues ∈ GW := mT7 (i := 26) (by decide +kernel) rfl
theorem lk_X7_248 : Cond.methodLink RX7 248 yX7_leastLength ∈ GW := mT7 (i := 30) (by decide +kernel) rfl
theorem lk_X7_242 : Cond.methodLink RX7 242 yX7_tries ∈ GW := mT7 (i := 34) (by decide +kernel) rfl
theorem lk_L_234 : Cond.methodLink RL 234 yX7_nestedByTrying ∈ GW := mT7 (i := 38) (by decide +kernel) rfl
theorem lk_X7_251 : Cond.methodLink RX7 251 yX7_nestedLength ∈ GW := mT7 (i := 42) (by decide +kernel) rfl
theorem lk_L_237 : Cond.methodLink RL 237 yX7_addCloth ∈ GW := mT7 (i := 43) (by decide +kernel) rfl
theorem lk_L_241 : Cond.methodLink RL 241 yX7_roll ∈ GW := mT7 (i := 48) (by decide +kernel) rfl
theorem lk_L_244 : Cond.methodLink RL 244 yX7_spread ∈ GW := mT7 (i := 52) (by decide +kernel) rfl
theorem lk_X7_262 : Cond.methodLink RX7 262 yX7_takenFromRoll ∈ GW := mT7 (i := 56) (by decide +kernel) rfl
theorem lk_X7_265 : Cond.methodLink RX7 265 yX7_isMuch ∈ GW := mT7 (i := 60) (by decide +kernel) rfl
theorem lk_X7_258 : Cond.methodLink RX7 258 yX7_givenBy ∈ GW := mT7 (i := 64) (by decide +kernel) rfl
theorem lk_L_247 : Cond.methodLink RL 247 yX7_pieces ∈ GW := mT7 (i := 68) (by decide +kernel) rfl
theorem lk_L_250 : Cond.methodLink RL 250 yX7_canMake ∈ GW := mT7 (i := 72) (by decide +kernel) rfl
theorem lk_X7_275 : Cond.methodLink RX7 275 yX7_makes ∈ GW := mT7 (i := 76) (by decide +kernel) rfl
theorem lk_L_253 : Cond.methodLink RL 253 yX7_canMakeByTaking ∈ GW := mT7 (i := 81) (by decide +kernel) rfl
theorem lk_X7_278 : Cond.methodLink RX7 278 yX7_canMake ∈ GW := mT7 (i := 85) (by decide +kernel) rfl
theorem lk_L_256 : Cond.methodLink RL 256 yX7_make ∈ GW := mT7 (i := 86) (by decide +kernel) rfl
theorem lk_L_259 : Cond.methodLink RL 259 yX7_made ∈ GW := mT7 (i := 90) (by decide +kernel) rfl
theorem lk_L_262 : Cond.methodLink RL 262 yX7_pliesFor ∈ GW := mT7 (i := 94) (by decide +kernel) rfl
theorem lk_L_267 : Cond.methodLink RL 267 yX7_cut ∈ GW := mT7 (i := 98) (by decide +kernel) rfl
theorem lk_L_271 : Cond.methodLink RL 271 yX7_density ∈ GW := mT7 (i := 102) (by decide +kernel) rfl
theorem lk_L_274 : Cond.methodLink RL 274 yX7_meanCells ∈ GW := mT7 (i := 106) (by decide +kernel) rfl
theorem lk_L_279 : Cond.methodLink RL 279 yX7_isSound ∈ GW := mT7 (i := 110) (by decide +kernel) rfl
theorem lk_X0_38 : (RX0, 38, yX6_entry, "CuttingRoom") ∈ nestL := List.mem_of_getElem? (i := 0) (by decide +kernel)
theorem lk_X0_42 : (RX0, 42, yX6_hasBit, "CuttingRoom") ∈ nestL := List.mem_of_getElem? (i := 1) (by decide +kernel)
theorem lk_X0_46 : (RX0, 46, yX6_store, "CuttingRoom") ∈ nestL := List.mem_of_getElem? (i := 2) (by decide +kernel)
theorem lk_X1_110 : (RX1, 110, yX6_entry, "CuttingRoom") ∈ nestL := List.mem_of_getElem? (i := 3) (by decide +kernel)
theorem lk_X1_160 : (RX1, 160, yX6_store, "CuttingRoom") ∈ nestL := List.mem_of_getElem? (i := 4) (by decide +kernel)
theorem lk_X4_36 : (RX4, 36, yX6_entry, "CuttingRoom") ∈ nestL := List.mem_of_getElem? (i := 5) (by decide +kernel)
theorem lk_X4_40 : (RX4, 40, yX6_hasBit, "CuttingRoom") ∈ nestL := List.mem_of_getElem? (i := 6) (by decide +kernel)
theorem lk_X4_44 : (RX4, 44, yX6_store, "CuttingRoom") ∈ nestL := List.mem_of_getElem? (i := 7) (by decide +kernel)
theorem lk_X2_29 : (RX2, 29, yX6_entry, "CuttingRoom") ∈ nestL := List.mem_of_getElem? (i := 8) (by decide +kernel)
theorem lk_X2_33 : (RX2, 33, yX6_hasBit, "CuttingRoom") ∈ nestL := List.mem_of_getElem? (i := 9) (by decide +kernel)
theorem lk_X2_44 : (RX2, 44, yX6_store, "CuttingRoom") ∈ nestL := List.mem_of_getElem? (i := 10) (by decide +kernel)
theorem lk_X2_48 : (RX2, 48, yX6_firstBit, "CuttingRoom") ∈ nestL := List.mem_of_getElem? (i := 11) (by decide +kernel)
theorem lk_X2_52 : (RX2, 52, yX6_endOfBits, "CuttingRoom") ∈ nestL := List.mem_of_getElem? (i := 12) (by decide +kernel)
theorem lk_X0_71 : (RX0, 71, yX6_isWithin, "CuttingRoom") ∈ nestL := List.mem_of_getElem? (i := 13) (by decide +kernel)
theorem lk_X1_164 : (RX1, 164, yX6_hasBit, "CuttingRoom") ∈ nestL := List.mem_of_getElem? (i := 14) (by decide +kernel)
theorem lk_X2_64 : (RX2, 64, yX6_isWithin, "CuttingRoom") ∈ nestL := List.mem_of_getElem? (i := 15) (by decide +kernel)
theorem kc_X6_359 : Cond.constant RX6 359 (Int32.ofInt 999999) ∈ GW := mT4 (i := 237) (by decide +kernel) rfl
theorem kc_X7_257 : Cond.constant RX7 257 (Int32.ofInt 999999) ∈ GW := mT7 (i := 47) (by decide +kernel) rfl
theorem kc_X7_274 : Cond.constant RX7 274 (Int32.ofInt 2147483647) ∈ GW := mT7 (i := 80) (by decide +kernel) rfl
