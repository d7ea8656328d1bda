theorem mX0_init : MOK yX0_init cX0_init 1 none 0 := ⟨mG (i := 69) (by decide +kernel) rfl, mG (i := 101) (by decide +kernel) rfl, by decide +kernel, by decide +kernel⟩
theorem mX0_openColumns : MOK yX0_openColumns cX0_openColumns 1 (some .int) 0 := ⟨mG (i := 69) (by decide +kernel) rfl, mG (i := 734) (by decide +kernel) rfl, by decide +kernel, by decide +kernel⟩
theorem vX0_openColumns : VOK yX0_openColumns := ⟨mG (i := 732) (by decide +kernel) rfl, mG (i := 733) (by decide +kernel) rfl⟩
theorem mX0_isStriped : MOK yX0_isStriped cX0_isStriped 1 (some .boolean) 0 := ⟨mG (i := 69) (by decide +kernel) rfl, mG (i := 911) (by decide +kernel) rfl, by decide +kernel, by decide +kernel⟩
theorem vX0_isStriped : VOK yX0_isStriped := ⟨mG (i := 909) (by decide +kernel) rfl, mG (i := 910) (by decide +kernel) rfl⟩
theorem mX0_remainder : MOK yX0_remainder cX0_remainder 2 (some .int) 1 := ⟨mG (i := 69) (by decide +kernel) rfl, mG (i := 741) (by decide +kernel) rfl, by decide +kernel, by decide +kernel⟩
theorem vX0_remainder : VOK yX0_remainder := ⟨mG (i := 739) (by decide +kernel) rfl, mG (i := 740) (by decide +kernel) rfl⟩
theorem mX0_opposite : MOK yX0_opposite cX0_opposite 2 (some .int) 1 := ⟨mG (i := 69) (by decide +kernel) rfl, mG (i := 269) (by decide +kernel) rfl, by decide +kernel, by decide +kernel⟩
theorem vX0_opposite : VOK yX0_opposite := ⟨mG (i := 267) (by decide +kernel) rfl, mG (i := 268) (by decide +kernel) rfl⟩
theorem mX0_foldOrOpen : MOK yX0_foldOrOpen cX0_foldOrOpen 2 none 1 := ⟨mG (i := 69) (by decide +kernel) rfl, mG (i := 451) (by decide +kernel) rfl, by decide +kernel, by decide +kernel⟩
theorem vX0_foldOrOpen : VOK yX0_foldOrOpen := ⟨mG (i := 449) (by decide +kernel) rfl, mG (i := 450) (by decide +kernel) rfl⟩
theorem mX0_isTold : MOK yX0_isTold cX0_isTold 3 (some .boolean) 2 := ⟨mG (i := 69) (by decide +kernel) rfl, mG (i := 489) (by decide +kernel) rfl, by decide +kernel, by decide +kernel⟩
theorem vX0_isTold : VOK yX0_isTold := ⟨mG (i := 487) (by decide +kernel) rfl, mG (i := 488) (by decide +kernel) rfl⟩
theorem mX0_tell : MOK yX0_tell cX0_tell 3 none 2 := ⟨mG (i := 69) (by decide +kernel) rfl, mG (i := 494) (by decide +kernel) rfl, by decide +kernel, by decide +kernel⟩
theorem vX0_tell : VOK yX0_tell := ⟨mG (i := 492) (by decide +kernel) rfl, mG (i := 493) (by decide +kernel) rfl⟩
theorem mX0_forgetFlaws : MOK yX0_forgetFlaws cX0_forgetFlaws 1 none 0 := ⟨mG (i := 69) (by decide +kernel) rfl, mG (i := 250) (by decide +kernel) rfl, by decide +kernel, by decide +kernel⟩
theorem vX0_forgetFlaws : VOK yX0_forgetFlaws := ⟨mG (i := 248) (by decide +kernel) rfl, mG (i := 249) (by decide +kernel) rfl⟩
theorem mX0_spoilRows : MOK yX0_spoilRows cX0_spoilRows 3 none 0 := ⟨mG (i := 69) (by decide +kernel) rfl, mG (i := 255) (by decide +kernel) rfl, by decide +kernel, by decide +kernel⟩
theorem vX0_spoilRows : VOK yX0_spoilRows := ⟨mG (i := 254) (by decide +kernel) rfl, mG (i := 0) (by decide +kernel) rfl⟩
theorem mX0_reversed : MOK yX0_reversed cX0_reversed 4 (some .int) 1 := ⟨mG (i := 69) (by decide +kernel) rfl, mG (i := 262) (by decide +kernel) rfl, by decide +kernel, by decide +kernel⟩
theorem vX0_reversed : VOK yX0_reversed := ⟨mG (i := 261) (by decide +kernel) rfl, mG (i := 1) (by decide +kernel) rfl⟩
theorem mX0_reaches : MOK yX0_reaches cX0_reaches 4 (some .boolean) 3 := ⟨mG (i := 69) (by decide +kernel) rfl, mG (i := 729) (by decide +kernel) rfl, by decide +kernel, by decide +kernel⟩
theorem vX0_reaches : VOK yX0_reaches := ⟨mG (i := 727) (by decide +kernel) rfl, mG (i := 728) (by decide +kernel) rfl⟩
theorem mX1_init : MOK yX1_init cX1_init 2 none 0 := ⟨mG (i := 70) (by decide +kernel) rfl, mG (i := 137) (by decide +kernel) rfl, by decide +kernel, by decide +kernel⟩
theorem mX1_isFull : MOK yX1_isFull cX1_isFull 1 (some .boolean) 0 := ⟨mG (i := 70) (by decide +kernel) rfl, mG (i := 753) (by decide +kernel) rfl, by decide +kernel, by decide +kernel⟩
theorem vX1_isFull : VOK yX1_isFull := ⟨mG (i := 751) (by decide +kernel) rfl, mG (i := 752) (by decide +kernel) rfl⟩
theorem mX1_pieceIn : MOK yX1_pieceIn cX1_pieceIn 2 (some (.object "CuttingRoom$Piece")) 1 := ⟨mG (i := 70) (by decide +kernel) rfl, mG (i := 305) (by decide +kernel) rfl, by decide +kernel, by decide +kernel⟩
theorem vX1_pieceIn : VOK yX1_pieceIn := ⟨mG (i := 304) (by decide +kernel) rfl, mG (i := 2) (by decide +kernel) rfl⟩
theorem mX1_slotOf : MOK yX1_slotOf cX1_slotOf 4 (some .int) 1 := ⟨mG (i := 70) (by decide +kernel) rfl, mG (i := 828) (by decide +kernel) rfl, by decide +kernel, by decide +kernel⟩
theorem vX1_slotOf : VOK yX1_slotOf := ⟨mG (i := 827) (by decide +kernel) rfl, mG (i := 17) (by decide +kernel) rfl⟩
theorem mX1_pieceNumbered : MOK yX1_pieceNumbered cX1_pieceNumbered 2 (some (.object "CuttingRoom$Piece")) 1 := ⟨mG (i := 70) (by decide +kernel) rfl, mG (i := 824) (by decide +kernel) rfl, by decide +kernel, by decide +kernel⟩
theorem vX1_pieceNumbered : VOK yX1_pieceNumbered := ⟨mG (i := 822) (by decide +kernel) rfl, mG (i := 823) (by decide +kernel) rfl⟩
theorem mX1_obstacle : MOK yX1_obstacle cX1_obstacle 8 (some .char) 6 := ⟨mG (i := 70) (by decide +kernel) rfl, mG (i := 713) (by decide +kernel) rfl, by decide +kernel, by decide +kernel⟩
theorem vX1_obstacle : VOK yX1_obstacle := ⟨mG (i := 711) (by decide +kernel) rfl, mG (i := 712) (by decide +kernel) rfl⟩
theorem mX1_meetsAny : MOK yX1_meetsAny cX1_meetsAny 5 (some .boolean) 4 := ⟨mG (i := 70) (by decide +kernel) rfl, mG (i := 737) (by decide +kernel) rfl, by decide +kernel, by decide +kernel⟩
theorem sX1_meetsAny : Cond.static yX1_meetsAny ∈ GW := mG (i := 736) (by decide +kernel) rfl
theorem mX1_stripesMeet : MOK yX1_stripesMeet cX1_stripesMeet 3 (some .boolean) 2 := ⟨mG (i := 70) (by decide +kernel) rfl, mG (i := 748) (by decide +kernel) rfl, by decide +kernel, by decide +kernel⟩
theorem vX1_stripesMeet : VOK yX1_stripesMeet := ⟨mG (i := 747) (by decide +kernel) rfl, mG (i := 13) (by decide +kernel) rfl⟩
theorem mX1_firstSpot : MOK yX1_firstSpot cX1_firstSpot 8 (some .int) 3 := ⟨mG (i := 70) (by decide +kernel) rfl, mG (i := 786) (by decide +kernel) rfl, by decide +kernel, by decide +kernel⟩
theorem vX1_firstSpot : VOK yX1_firstSpot := ⟨mG (i := 784) (by decide +kernel) rfl, mG (i := 785) (by decide +kernel) rfl⟩
theorem mX1_putAtSpot : MOK yX1_putAtSpot cX1_putAtSpot 6 (some .int) 4 := ⟨mG (i := 70) (by decide +kernel) rfl, mG (i := 808) (by decide +kernel) rfl, by decide +kernel, by decide +kernel⟩
theorem vX1_putAtSpot : VOK yX1_putAtSpot := ⟨mG (i := 806) (by decide +kernel) rfl, mG (i := 807) (by decide +kernel) rfl⟩
theorem mX1_put : MOK yX1_put cX1_put 9 (some .int) 6 := ⟨mG (i := 70) (by decide +kernel) rfl, mG (i := 758) (by decide +kernel) rfl, by decide +kernel, by decide +kernel⟩
theorem vX1_put : VOK yX1_put := ⟨mG (i := 756) (by decide +kernel) rfl, mG (i := 757) (by decide +kernel) rfl⟩
theorem mX1_cover : MOK yX1_cover cX1_cover 9 none 4 := ⟨mG (i := 70) (by decide +kernel) rfl, mG (i := 762) (by decide +kernel) rfl, by decide +kernel, by decide +kernel⟩
theorem vX1_cover : VOK yX1_cover := ⟨mG (i := 761) (by decide +kernel) rfl, mG (i := 14) (by decide +kernel) rfl⟩
theorem mX1_join : MOK yX1_join cX1_join 3 none 2 := ⟨mG (i := 70) (by decide +kernel) rfl, mG (i := 767) (by decide +kernel) rfl, by decide +kernel, by decide +kernel⟩
theorem vX1_join : VOK yX1_join := ⟨mG (i := 766) (by decide +kernel) rfl, mG (i := 15) (by decide +kernel) rfl⟩
theorem mX1_leave : MOK yX1_leave cX1_leave 2 none 1 := ⟨mG (i := 70) (by decide +kernel) rfl, mG (i := 837) (by decide +kernel) rfl, by decide +kernel, by decide +kernel⟩
theorem vX1_leave : VOK yX1_leave := ⟨mG (i := 836) (by decide +kernel) rfl, mG (i := 18) (by decide +kernel) rfl⟩
theorem mX1_remove : MOK yX1_remove cX1_remove 4 none 1 := ⟨mG (i := 70) (by decide +kernel) rfl, mG (i := 833) (by decide +kernel) rfl, by decide +kernel, by decide +kernel⟩
theorem vX1_remove : VOK yX1_remove := ⟨mG (i := 831) (by decide +kernel) rfl, mG (i := 832) (by decide +kernel) rfl⟩
theorem mX1_moveToEnd : MOK yX1_moveToEnd cX1_moveToEnd 4 none 1 := ⟨mG (i := 70) (by decide +kernel) rfl, mG (i := 841) (by decide +kernel) rfl, by decide +kernel, by decide +kernel⟩
theorem vX1_moveToEnd : VOK yX1_moveToEnd := ⟨mG (i := 840) (by decide +kernel) rfl, mG (i := 19) (by decide +kernel) rfl⟩
theorem mX1_empty : MOK yX1_empty cX1_empty 1 none 0 := ⟨mG (i := 70) (by decide +kernel) rfl, mG (i := 280) (by decide +kernel) rfl, by decide +kernel, by decide +kernel⟩
theorem vX1_empty : VOK yX1_empty := ⟨mG (i := 278) (by decide +kernel) rfl, mG (i := 279) (by decide +kernel) rfl⟩
theorem mX1_ownerOf : MOK yX1_ownerOf cX1_ownerOf 4 (some .int) 2 := ⟨mG (i := 70) (by decide +kernel) rfl, mG (i := 468) (by decide +kernel) rfl, by decide +kernel, by decide +kernel⟩
theorem vX1_ownerOf : VOK yX1_ownerOf := ⟨mG (i := 466) (by decide +kernel) rfl, mG (i := 467) (by decide +kernel) rfl⟩
theorem mX1_ownerByPieces : MOK yX1_ownerByPieces cX1_ownerByPieces 5 (some .int) 2 := ⟨mG (i := 70) (by decide +kernel) rfl, mG (i := 890) (by decide +kernel) rfl, by decide +kernel, by decide +kernel⟩
theorem vX1_ownerByPieces : VOK yX1_ownerByPieces := ⟨mG (i := 888) (by decide +kernel) rfl, mG (i := 889) (by decide +kernel) rfl⟩
theorem mX1_holds : MOK yX1_holds cX1_holds 2 (some .boolean) 1 := ⟨mG (i := 70) (by decide +kernel) rfl, mG (i := 641) (by decide +kernel) rfl, by decide +kernel, by decide +kernel⟩
theorem vX1_holds : VOK yX1_holds := ⟨mG (i := 639) (by decide +kernel) rfl, mG (i := 640) (by decide +kernel) rfl⟩
theorem mX1_countOf : MOK yX1_countOf cX1_countOf 6 (some .int) 2 := ⟨mG (i := 70) (by decide +kernel) rfl, mG (i := 645) (by decide +kernel) rfl, by decide +kernel, by decide +kernel⟩
theorem vX1_countOf : VOK yX1_countOf := ⟨mG (i := 643) (by decide +kernel) rfl, mG (i := 644) (by decide +kernel) rfl⟩
theorem mX1_rowsUsed : MOK yX1_rowsUsed cX1_rowsUsed 2 (some .int) 0 := ⟨mG (i := 70) (by decide +kernel) rfl, mG (i := 292) (by decide +kernel) rfl, by decide +kernel, by decide +kernel⟩
theorem vX1_rowsUsed : VOK yX1_rowsUsed := ⟨mG (i := 290) (by decide +kernel) rfl, mG (i := 291) (by decide +kernel) rfl⟩
theorem mX1_cellsUsed : MOK yX1_cellsUsed cX1_cellsUsed 4 (some .int) 0 := ⟨mG (i := 70) (by decide +kernel) rfl, mG (i := 301) (by decide +kernel) rfl, by decide +kernel, by decide +kernel⟩
theorem vX1_cellsUsed : VOK yX1_cellsUsed := ⟨mG (i := 299) (by decide +kernel) rfl, mG (i := 300) (by decide +kernel) rfl⟩
theorem mX1_hasNoOverlap : MOK yX1_hasNoOverlap cX1_hasNoOverlap 2 (some .boolean) 0 := ⟨mG (i := 70) (by decide +kernel) rfl, mG (i := 325) (by decide +kernel) rfl, by decide +kernel, by decide +kernel⟩
theorem vX1_hasNoOverlap : VOK yX1_hasNoOverlap := ⟨mG (i := 323) (by decide +kernel) rfl, mG (i := 324) (by decide +kernel) rfl⟩
theorem mX1_meetsAnew : MOK yX1_meetsAnew cX1_meetsAnew 5 (some .boolean) 1 := ⟨mG (i := 70) (by decide +kernel) rfl, mG (i := 329) (by decide +kernel) rfl, by decide +kernel, by decide +kernel⟩
theorem vX1_meetsAnew : VOK yX1_meetsAnew := ⟨mG (i := 328) (by decide +kernel) rfl, mG (i := 4) (by decide +kernel) rfl⟩
theorem mX2_init : MOK yX2_init cX2_init 3 none 2 := ⟨mG (i := 81) (by decide +kernel) rfl, mG (i := 514) (by decide +kernel) rfl, by decide +kernel, by decide +kernel⟩
theorem mX2_trace : MOK yX2_trace cX2_trace 10 none 3 := ⟨mG (i := 81) (by decide +kernel) rfl, mG (i := 659) (by decide +kernel) rfl, by decide +kernel, by decide +kernel⟩
theorem vX2_trace : VOK yX2_trace := ⟨mG (i := 657) (by decide +kernel) rfl, mG (i := 658) (by decide +kernel) rfl⟩
theorem mX2_turnedRow : MOK yX2_turnedRow cX2_turnedRow 4 (some .int) 2 := ⟨mG (i := 81) (by decide +kernel) rfl, mG (i := 666) (by decide +kernel) rfl, by decide +kernel, by decide +kernel⟩
theorem vX2_turnedRow : VOK yX2_turnedRow := ⟨mG (i := 665) (by decide +kernel) rfl, mG (i := 11) (by decide +kernel) rfl⟩
theorem mX2_turnedColumn : MOK yX2_turnedColumn cX2_turnedColumn 4 (some .int) 2 := ⟨mG (i := 81) (by decide +kernel) rfl, mG (i := 670) (by decide +kernel) rfl, by decide +kernel, by decide +kernel⟩
theorem vX2_turnedColumn : VOK yX2_turnedColumn := ⟨mG (i := 669) (by decide +kernel) rfl, mG (i := 12) (by decide +kernel) rfl⟩
theorem mX2_hasCell : MOK yX2_hasCell cX2_hasCell 3 (some .boolean) 2 := ⟨mG (i := 81) (by decide +kernel) rfl, mG (i := 898) (by decide +kernel) rfl, by decide +kernel, by decide +kernel⟩
theorem vX2_hasCell : VOK yX2_hasCell := ⟨mG (i := 896) (by decide +kernel) rfl, mG (i := 897) (by decide +kernel) rfl⟩
theorem mX3_init : MOK yX3_init cX3_init 1 none 0 := ⟨mG (i := 71) (by decide +kernel) rfl, mG (i := 144) (by decide +kernel) rfl, by decide +kernel, by decide +kernel⟩
theorem mX3_covers : MOK yX3_covers cX3_covers 3 (some .boolean) 2 := ⟨mG (i := 71) (by decide +kernel) rfl, mG (i := 894) (by decide +kernel) rfl, by decide +kernel, by decide +kernel⟩
theorem vX3_covers : VOK yX3_covers := ⟨mG (i := 892) (by decide +kernel) rfl, mG (i := 893) (by decide +kernel) rfl⟩
theorem mX4_init : MOK yX4_init cX4_init 4 none 2 := ⟨mG (i := 80) (by decide +kernel) rfl, mG (i := 507) (by decide +kernel) rfl, by decide +kernel, by decide +kernel⟩
theorem mX4_hasCell : MOK yX4_hasCell cX4_hasCell 3 (some .boolean) 2 := ⟨mG (i := 80) (by decide +kernel) rfl, mG (i := 634) (by decide +kernel) rfl, by decide +kernel, by decide +kernel⟩
theorem vX4_hasCell : VOK yX4_hasCell := ⟨mG (i := 632) (by decide +kernel) rfl, mG (i := 633) (by decide +kernel) rfl⟩
theorem mX4_draw : MOK yX4_draw cX4_draw 3 none 2 := ⟨mG (i := 80) (by decide +kernel) rfl, mG (i := 650) (by decide +kernel) rfl, by decide +kernel, by decide +kernel⟩
theorem vX4_draw : VOK yX4_draw := ⟨mG (i := 648) (by decide +kernel) rfl, mG (i := 649) (by decide +kernel) rfl⟩
theorem mX4_mark : MOK yX4_mark cX4_mark 4 none 3 := ⟨mG (i := 80) (by decide +kernel) rfl, mG (i := 691) (by decide +kernel) rfl, by decide +kernel, by decide +kernel⟩
theorem vX4_mark : VOK yX4_mark := ⟨mG (i := 689) (by decide +kernel) rfl, mG (i := 690) (by decide +kernel) rfl⟩
theorem mX4_traceAll : MOK yX4_traceAll cX4_traceAll 3 none 0 := ⟨mG (i := 80) (by decide +kernel) rfl, mG (i := 655) (by decide +kernel) rfl, by decide +kernel, by decide +kernel⟩
theorem vX4_traceAll : VOK yX4_traceAll := ⟨mG (i := 654) (by decide +kernel) rfl, mG (i := 10) (by decide +kernel) rfl⟩
theorem mX4_outlineFor : MOK yX4_outlineFor cX4_outlineFor 4 (some (.object "CuttingRoom$Outline")) 2 := ⟨mG (i := 80) (by decide +kernel) rfl, mG (i := 717) (by decide +kernel) rfl, by decide +kernel, by decide +kernel⟩
theorem vX4_outlineFor : VOK yX4_outlineFor := ⟨mG (i := 715) (by decide +kernel) rfl, mG (i := 716) (by decide +kernel) rfl⟩
theorem mX4_canTurn : MOK yX4_canTurn cX4_canTurn 3 (some .boolean) 2 := ⟨mG (i := 80) (by decide +kernel) rfl, mG (i := 721) (by decide +kernel) rfl, by decide +kernel, by decide +kernel⟩
theorem vX4_canTurn : VOK yX4_canTurn := ⟨mG (i := 719) (by decide +kernel) rfl, mG (i := 720) (by decide +kernel) rfl⟩
theorem mX4_canMirror : MOK yX4_canMirror cX4_canMirror 2 (some .boolean) 1 := ⟨mG (i := 80) (by decide +kernel) rfl, mG (i := 725) (by decide +kernel) rfl, by decide +kernel, by decide +kernel⟩
theorem vX4_canMirror : VOK yX4_canMirror := ⟨mG (i := 723) (by decide +kernel) rfl, mG (i := 724) (by decide +kernel) rfl⟩
theorem mX4_whole : MOK yX4_whole cX4_whole 1 (some .int) 0 := ⟨mG (i := 80) (by decide +kernel) rfl, mG (i := 1084) (by decide +kernel) rfl, by decide +kernel, by decide +kernel⟩
theorem vX4_whole : VOK yX4_whole := ⟨mG (i := 1082) (by decide +kernel) rfl, mG (i := 1083) (by decide +kernel) rfl⟩
theorem mX4_receive : MOK yX4_receive cX4_receive 3 none 2 := ⟨mG (i := 80) (by decide +kernel) rfl, mG (i := 1052) (by decide +kernel) rfl, by decide +kernel, by decide +kernel⟩
theorem vX4_receive : VOK yX4_receive := ⟨mG (i := 1050) (by decide +kernel) rfl, mG (i := 1051) (by decide +kernel) rfl⟩
theorem mX4_giveAway : MOK yX4_giveAway cX4_giveAway 2 none 1 := ⟨mG (i := 80) (by decide +kernel) rfl, mG (i := 1120) (by decide +kernel) rfl, by decide +kernel, by decide +kernel⟩
theorem vX4_giveAway : VOK yX4_giveAway := ⟨mG (i := 1118) (by decide +kernel) rfl, mG (i := 1119) (by decide +kernel) rfl⟩
theorem mX5_init : MOK yX5_init cX5_init 1 none 0 := ⟨mG (i := 87) (by decide +kernel) rfl, mG (i := 924) (by decide +kernel) rfl, by decide +kernel, by decide +kernel⟩
theorem mX5_hasParts : MOK yX5_hasParts cX5_hasParts 2 (some .boolean) 0 := ⟨mG (i := 87) (by decide +kernel) rfl, mG (i := 1075) (by decide +kernel) rfl, by decide +kernel, by decide +kernel⟩
theorem vX5_hasParts : VOK yX5_hasParts := ⟨mG (i := 1073) (by decide +kernel) rfl, mG (i := 1074) (by decide +kernel) rfl⟩
theorem mX6_init : MOK yX6_init cX6_init 1 none 0 := ⟨mG (i := 68) (by decide +kernel) rfl, mG (i := 93) (by decide +kernel) rfl, by decide +kernel, by decide +kernel⟩
theorem mX6_setCloth : MOK yX6_setCloth cX6_setCloth 5 (some .int) 3 := ⟨mG (i := 68) (by decide +kernel) rfl, mG (i := 348) (by decide +kernel) rfl, by decide +kernel, by decide +kernel⟩
theorem vX6_setCloth : VOK yX6_setCloth := ⟨mG (i := 346) (by decide +kernel) rfl, mG (i := 347) (by decide +kernel) rfl⟩
theorem mX6_fold : MOK yX6_fold cX6_fold 3 (some .boolean) 1 := ⟨mG (i := 68) (by decide +kernel) rfl, mG (i := 446) (by decide +kernel) rfl, by decide +kernel, by decide +kernel⟩
theorem vX6_fold : VOK yX6_fold := ⟨mG (i := 444) (by decide +kernel) rfl, mG (i := 445) (by decide +kernel) rfl⟩
theorem mX6_addFlaw : MOK yX6_addFlaw cX6_addFlaw 3 (some .int) 2 := ⟨mG (i := 68) (by decide +kernel) rfl, mG (i := 459) (by decide +kernel) rfl, by decide +kernel, by decide +kernel⟩
theorem vX6_addFlaw : VOK yX6_addFlaw := ⟨mG (i := 457) (by decide +kernel) rfl, mG (i := 458) (by decide +kernel) rfl⟩
theorem mX6_isUnderPiece : MOK yX6_isUnderPiece cX6_isUnderPiece 3 (some .boolean) 2 := ⟨mG (i := 68) (by decide +kernel) rfl, mG (i := 464) (by decide +kernel) rfl, by decide +kernel, by decide +kernel⟩
theorem vX6_isUnderPiece : VOK yX6_isUnderPiece := ⟨mG (i := 463) (by decide +kernel) rfl, mG (i := 8) (by decide +kernel) rfl⟩
theorem mX6_clearFlaws : MOK yX6_clearFlaws cX6_clearFlaws 2 (some .int) 0 := ⟨mG (i := 68) (by decide +kernel) rfl, mG (i := 246) (by decide +kernel) rfl, by decide +kernel, by decide +kernel⟩
theorem vX6_clearFlaws : VOK yX6_clearFlaws := ⟨mG (i := 244) (by decide +kernel) rfl, mG (i := 245) (by decide +kernel) rfl⟩
theorem mX6_addShape : MOK yX6_addShape cX6_addShape 4 (some .int) 2 := ⟨mG (i := 68) (by decide +kernel) rfl, mG (i := 501) (by decide +kernel) rfl, by decide +kernel, by decide +kernel⟩
theorem vX6_addShape : VOK yX6_addShape := ⟨mG (i := 499) (by decide +kernel) rfl, mG (i := 500) (by decide +kernel) rfl⟩
theorem mX6_addCell : MOK yX6_addCell cX6_addCell 5 (some .int) 3 := ⟨mG (i := 68) (by decide +kernel) rfl, mG (i := 612) (by decide +kernel) rfl, by decide +kernel, by decide +kernel⟩
theorem vX6_addCell : VOK yX6_addCell := ⟨mG (i := 610) (by decide +kernel) rfl, mG (i := 611) (by decide +kernel) rfl⟩
theorem mX6_setMark : MOK yX6_setMark cX6_setMark 7 (some .int) 4 := ⟨mG (i := 68) (by decide +kernel) rfl, mG (i := 685) (by decide +kernel) rfl, by decide +kernel, by decide +kernel⟩
theorem vX6_setMark : VOK yX6_setMark := ⟨mG (i := 683) (by decide +kernel) rfl, mG (i := 684) (by decide +kernel) rfl⟩
theorem mX6_cellsOf : MOK yX6_cellsOf cX6_cellsOf 2 (some .int) 1 := ⟨mG (i := 68) (by decide +kernel) rfl, mG (i := 698) (by decide +kernel) rfl, by decide +kernel, by decide +kernel⟩
theorem vX6_cellsOf : VOK yX6_cellsOf := ⟨mG (i := 696) (by decide +kernel) rfl, mG (i := 697) (by decide +kernel) rfl⟩
theorem mX6_shapeOrThrow : MOK yX6_shapeOrThrow cX6_shapeOrThrow 3 (some (.object "CuttingRoom$Shape")) 1 := ⟨mG (i := 68) (by decide +kernel) rfl, mG (i := 616) (by decide +kernel) rfl, by decide +kernel, by decide +kernel⟩
theorem vX6_shapeOrThrow : VOK yX6_shapeOrThrow := ⟨mG (i := 615) (by decide +kernel) rfl, mG (i := 9) (by decide +kernel) rfl⟩
theorem mX6_shapeNumbered : MOK yX6_shapeNumbered cX6_shapeNumbered 2 (some (.object "CuttingRoom$Shape")) 1 := ⟨mG (i := 68) (by decide +kernel) rfl, mG (i := 317) (by decide +kernel) rfl, by decide +kernel, by decide +kernel⟩
theorem vX6_shapeNumbered : VOK yX6_shapeNumbered := ⟨mG (i := 316) (by decide +kernel) rfl, mG (i := 3) (by decide +kernel) rfl⟩
theorem mX6_lay : MOK yX6_lay cX6_lay 7 (some .int) 5 := ⟨mG (i := 68) (by decide +kernel) rfl, mG (i := 705) (by decide +kernel) rfl, by decide +kernel, by decide +kernel⟩
theorem vX6_lay : VOK yX6_lay := ⟨mG (i := 703) (by decide +kernel) rfl, mG (i := 704) (by decide +kernel) rfl⟩
theorem mX6_reason : MOK yX6_reason cX6_reason 7 (some .char) 5 := ⟨mG (i := 68) (by decide +kernel) rfl, mG (i := 774) (by decide +kernel) rfl, by decide +kernel, by decide +kernel⟩
theorem vX6_reason : VOK yX6_reason := ⟨mG (i := 772) (by decide +kernel) rfl, mG (i := 773) (by decide +kernel) rfl⟩
theorem mX6_checkTurns : MOK yX6_checkTurns cX6_checkTurns 1 none 1 := ⟨mG (i := 68) (by decide +kernel) rfl, mG (i := 708) (by decide +kernel) rfl, by decide +kernel, by decide +kernel⟩
theorem sX6_checkTurns : Cond.static yX6_checkTurns ∈ GW := mG (i := 707) (by decide +kernel) rfl
theorem mX6_nest : MOK yX6_nest cX6_nest 5 (some .int) 2 := ⟨mG (i := 68) (by decide +kernel) rfl, mG (i := 782) (by decide +kernel) rfl, by decide +kernel, by decide +kernel⟩
theorem vX6_nest : VOK yX6_nest := ⟨mG (i := 780) (by decide +kernel) rfl, mG (i := 781) (by decide +kernel) rfl⟩
theorem mX6_takeOff : MOK yX6_takeOff cX6_takeOff 2 (some .int) 1 := ⟨mG (i := 68) (by decide +kernel) rfl, mG (i := 816) (by decide +kernel) rfl, by decide +kernel, by decide +kernel⟩
theorem vX6_takeOff : VOK yX6_takeOff := ⟨mG (i := 814) (by decide +kernel) rfl, mG (i := 815) (by decide +kernel) rfl⟩
theorem mX6_clear : MOK yX6_clear cX6_clear 2 (some .int) 0 := ⟨mG (i := 68) (by decide +kernel) rfl, mG (i := 276) (by decide +kernel) rfl, by decide +kernel, by decide +kernel⟩
theorem vX6_clear : VOK yX6_clear := ⟨mG (i := 274) (by decide +kernel) rfl, mG (i := 275) (by decide +kernel) rfl⟩
theorem mX6_inMarker : MOK yX6_inMarker cX6_inMarker 1 (some .int) 0 := ⟨mG (i := 68) (by decide +kernel) rfl, mG (i := 284) (by decide +kernel) rfl, by decide +kernel, by decide +kernel⟩
theorem vX6_inMarker : VOK yX6_inMarker := ⟨mG (i := 282) (by decide +kernel) rfl, mG (i := 283) (by decide +kernel) rfl⟩
theorem mX6_rowOf : MOK yX6_rowOf cX6_rowOf 2 (some .int) 1 := ⟨mG (i := 68) (by decide +kernel) rfl, mG (i := 851) (by decide +kernel) rfl, by decide +kernel, by decide +kernel⟩
theorem vX6_rowOf : VOK yX6_rowOf := ⟨mG (i := 849) (by decide +kernel) rfl, mG (i := 850) (by decide +kernel) rfl⟩
theorem mX6_columnOf : MOK yX6_columnOf cX6_columnOf 2 (some .int) 1 := ⟨mG (i := 68) (by decide +kernel) rfl, mG (i := 858) (by decide +kernel) rfl, by decide +kernel, by decide +kernel⟩
theorem vX6_columnOf : VOK yX6_columnOf := ⟨mG (i := 856) (by decide +kernel) rfl, mG (i := 857) (by decide +kernel) rfl⟩
theorem mX6_turnsOf : MOK yX6_turnsOf cX6_turnsOf 2 (some .int) 1 := ⟨mG (i := 68) (by decide +kernel) rfl, mG (i := 865) (by decide +kernel) rfl, by decide +kernel, by decide +kernel⟩
theorem vX6_turnsOf : VOK yX6_turnsOf := ⟨mG (i := 863) (by decide +kernel) rfl, mG (i := 864) (by decide +kernel) rfl⟩
theorem mX6_pieceOrThrow : MOK yX6_pieceOrThrow cX6_pieceOrThrow 3 (some (.object "CuttingRoom$Piece")) 1 := ⟨mG (i := 68) (by decide +kernel) rfl, mG (i := 820) (by decide +kernel) rfl, by decide +kernel, by decide +kernel⟩
theorem vX6_pieceOrThrow : VOK yX6_pieceOrThrow := ⟨mG (i := 819) (by decide +kernel) rfl, mG (i := 16) (by decide +kernel) rfl⟩
theorem mX6_pieceAt : MOK yX6_pieceAt cX6_pieceAt 3 (some .int) 2 := ⟨mG (i := 68) (by decide +kernel) rfl, mG (i := 872) (by decide +kernel) rfl, by decide +kernel, by decide +kernel⟩
theorem vX6_pieceAt : VOK yX6_pieceAt := ⟨mG (i := 870) (by decide +kernel) rfl, mG (i := 871) (by decide +kernel) rfl⟩
theorem mX6_pieceByPieces : MOK yX6_pieceByPieces cX6_pieceByPieces 3 (some .int) 2 := ⟨mG (i := 68) (by decide +kernel) rfl, mG (i := 886) (by decide +kernel) rfl, by decide +kernel, by decide +kernel⟩
theorem vX6_pieceByPieces : VOK yX6_pieceByPieces := ⟨mG (i := 884) (by decide +kernel) rfl, mG (i := 885) (by decide +kernel) rfl⟩
theorem mX6_checkCell : MOK yX6_checkCell cX6_checkCell 2 none 2 := ⟨mG (i := 68) (by decide +kernel) rfl, mG (i := 875) (by decide +kernel) rfl, by decide +kernel, by decide +kernel⟩
theorem sX6_checkCell : Cond.static yX6_checkCell ∈ GW := mG (i := 874) (by decide +kernel) rfl
theorem mX6_numberOrThrow : MOK yX6_numberOrThrow cX6_numberOrThrow 1 (some .int) 1 := ⟨mG (i := 68) (by decide +kernel) rfl, mG (i := 878) (by decide +kernel) rfl, by decide +kernel, by decide +kernel⟩
theorem sX6_numberOrThrow : Cond.static yX6_numberOrThrow ∈ GW := mG (i := 877) (by decide +kernel) rfl
theorem mX6_length : MOK yX6_length cX6_length 1 (some .int) 0 := ⟨mG (i := 68) (by decide +kernel) rfl, mG (i := 288) (by decide +kernel) rfl, by decide +kernel, by decide +kernel⟩
theorem vX6_length : VOK yX6_length := ⟨mG (i := 286) (by decide +kernel) rfl, mG (i := 287) (by decide +kernel) rfl⟩
theorem mX6_used : MOK yX6_used cX6_used 1 (some .int) 0 := ⟨mG (i := 68) (by decide +kernel) rfl, mG (i := 297) (by decide +kernel) rfl, by decide +kernel, by decide +kernel⟩
theorem vX6_used : VOK yX6_used := ⟨mG (i := 295) (by decide +kernel) rfl, mG (i := 296) (by decide +kernel) rfl⟩
theorem mX6_phase : MOK yX6_phase cX6_phase 2 (some .int) 1 := ⟨mG (i := 68) (by decide +kernel) rfl, mG (i := 906) (by decide +kernel) rfl, by decide +kernel, by decide +kernel⟩
theorem vX6_phase : VOK yX6_phase := ⟨mG (i := 904) (by decide +kernel) rfl, mG (i := 905) (by decide +kernel) rfl⟩
theorem mX6_addStyle : MOK yX6_addStyle cX6_addStyle 2 (some .int) 0 := ⟨mG (i := 68) (by decide +kernel) rfl, mG (i := 919) (by decide +kernel) rfl, by decide +kernel, by decide +kernel⟩
theorem vX6_addStyle : VOK yX6_addStyle := ⟨mG (i := 917) (by decide +kernel) rfl, mG (i := 918) (by decide +kernel) rfl⟩
theorem mX6_addPart : MOK yX6_addPart cX6_addPart 5 (some .int) 3 := ⟨mG (i := 68) (by decide +kernel) rfl, mG (i := 940) (by decide +kernel) rfl, by decide +kernel, by decide +kernel⟩
theorem vX6_addPart : VOK yX6_addPart := ⟨mG (i := 938) (by decide +kernel) rfl, mG (i := 939) (by decide +kernel) rfl⟩
theorem mX6_piecesFor : MOK yX6_piecesFor cX6_piecesFor 2 (some .int) 1 := ⟨mG (i := 68) (by decide +kernel) rfl, mG (i := 959) (by decide +kernel) rfl, by decide +kernel, by decide +kernel⟩
theorem vX6_piecesFor : VOK yX6_piecesFor := ⟨mG (i := 957) (by decide +kernel) rfl, mG (i := 958) (by decide +kernel) rfl⟩
theorem mX6_styleOrThrow : MOK yX6_styleOrThrow cX6_styleOrThrow 3 (some (.object "CuttingRoom$Style")) 1 := ⟨mG (i := 68) (by decide +kernel) rfl, mG (i := 944) (by decide +kernel) rfl, by decide +kernel, by decide +kernel⟩
theorem vX6_styleOrThrow : VOK yX6_styleOrThrow := ⟨mG (i := 943) (by decide +kernel) rfl, mG (i := 20) (by decide +kernel) rfl⟩
theorem mX6_styleWithPartsOrThrow : MOK yX6_styleWithPartsOrThrow cX6_styleWithPartsOrThrow 3 (some (.object "CuttingRoom$Style")) 1 := ⟨mG (i := 68) (by decide +kernel) rfl, mG (i := 1071) (by decide +kernel) rfl, by decide +kernel, by decide +kernel⟩
theorem vX6_styleWithPartsOrThrow : VOK yX6_styleWithPartsOrThrow := ⟨mG (i := 1070) (by decide +kernel) rfl, mG (i := 33) (by decide +kernel) rfl⟩
theorem mX6_piecesOfGarment : MOK yX6_piecesOfGarment cX6_piecesOfGarment 4 (some .int) 1 := ⟨mG (i := 68) (by decide +kernel) rfl, mG (i := 952) (by decide +kernel) rfl, by decide +kernel, by decide +kernel⟩
theorem vX6_piecesOfGarment : VOK yX6_piecesOfGarment := ⟨mG (i := 951) (by decide +kernel) rfl, mG (i := 21) (by decide +kernel) rfl⟩
theorem mX6_piecesOfPart : MOK yX6_piecesOfPart cX6_piecesOfPart 5 (some .int) 2 := ⟨mG (i := 68) (by decide +kernel) rfl, mG (i := 338) (by decide +kernel) rfl, by decide +kernel, by decide +kernel⟩
theorem vX6_piecesOfPart : VOK yX6_piecesOfPart := ⟨mG (i := 337) (by decide +kernel) rfl, mG (i := 6) (by decide +kernel) rfl⟩
theorem mX6_nestedLength : MOK yX6_nestedLength cX6_nestedLength 3 (some .int) 1 := ⟨mG (i := 68) (by decide +kernel) rfl, mG (i := 966) (by decide +kernel) rfl, by decide +kernel, by decide +kernel⟩
theorem vX6_nestedLength : VOK yX6_nestedLength := ⟨mG (i := 964) (by decide +kernel) rfl, mG (i := 965) (by decide +kernel) rfl⟩
theorem mX6_nestedByTrying : MOK yX6_nestedByTrying cX6_nestedByTrying 6 (some .int) 1 := ⟨mG (i := 68) (by decide +kernel) rfl, mG (i := 1008) (by decide +kernel) rfl, by decide +kernel, by decide +kernel⟩
theorem vX6_nestedByTrying : VOK yX6_nestedByTrying := ⟨mG (i := 1006) (by decide +kernel) rfl, mG (i := 1007) (by decide +kernel) rfl⟩
theorem mX6_lengthOrThrow : MOK yX6_lengthOrThrow cX6_lengthOrThrow 1 (some .int) 1 := ⟨mG (i := 68) (by decide +kernel) rfl, mG (i := 1000) (by decide +kernel) rfl, by decide +kernel, by decide +kernel⟩
theorem sX6_lengthOrThrow : Cond.static yX6_lengthOrThrow ∈ GW := mG (i := 999) (by decide +kernel) rfl
theorem mX6_wantPieces : MOK yX6_wantPieces cX6_wantPieces 6 (some .int) 1 := ⟨mG (i := 68) (by decide +kernel) rfl, mG (i := 970) (by decide +kernel) rfl, by decide +kernel, by decide +kernel⟩
theorem vX6_wantPieces : VOK yX6_wantPieces := ⟨mG (i := 969) (by decide +kernel) rfl, mG (i := 22) (by decide +kernel) rfl⟩
theorem mX6_plainToNest : MOK yX6_plainToNest cX6_plainToNest 6 (some .int) 2 := ⟨mG (i := 68) (by decide +kernel) rfl, mG (i := 974) (by decide +kernel) rfl, by decide +kernel, by decide +kernel⟩
theorem vX6_plainToNest : VOK yX6_plainToNest := ⟨mG (i := 973) (by decide +kernel) rfl, mG (i := 23) (by decide +kernel) rfl⟩
theorem mX6_mirroredToNest : MOK yX6_mirroredToNest cX6_mirroredToNest 4 (some .int) 2 := ⟨mG (i := 68) (by decide +kernel) rfl, mG (i := 978) (by decide +kernel) rfl, by decide +kernel, by decide +kernel⟩
theorem vX6_mirroredToNest : VOK yX6_mirroredToNest := ⟨mG (i := 977) (by decide +kernel) rfl, mG (i := 24) (by decide +kernel) rfl⟩
theorem mX6_shortest : MOK yX6_shortest cX6_shortest 5 (some .int) 2 := ⟨mG (i := 68) (by decide +kernel) rfl, mG (i := 986) (by decide +kernel) rfl, by decide +kernel, by decide +kernel⟩
theorem vX6_shortest : VOK yX6_shortest := ⟨mG (i := 985) (by decide +kernel) rfl, mG (i := 25) (by decide +kernel) rfl⟩
theorem mX6_shortestWith : MOK yX6_shortestWith cX6_shortestWith 6 (some .int) 3 := ⟨mG (i := 68) (by decide +kernel) rfl, mG (i := 993) (by decide +kernel) rfl, by decide +kernel, by decide +kernel⟩
theorem vX6_shortestWith : VOK yX6_shortestWith := ⟨mG (i := 992) (by decide +kernel) rfl, mG (i := 26) (by decide +kernel) rfl⟩
theorem mX6_lengthInOrder : MOK yX6_lengthInOrder cX6_lengthInOrder 7 (some .int) 2 := ⟨mG (i := 68) (by decide +kernel) rfl, mG (i := 1012) (by decide +kernel) rfl, by decide +kernel, by decide +kernel⟩
theorem vX6_lengthInOrder : VOK yX6_lengthInOrder := ⟨mG (i := 1011) (by decide +kernel) rfl, mG (i := 28) (by decide +kernel) rfl⟩
theorem mX6_fillQueue : MOK yX6_fillQueue cX6_fillQueue 4 none 0 := ⟨mG (i := 68) (by decide +kernel) rfl, mG (i := 1016) (by decide +kernel) rfl, by decide +kernel, by decide +kernel⟩
theorem vX6_fillQueue : VOK yX6_fillQueue := ⟨mG (i := 1015) (by decide +kernel) rfl, mG (i := 29) (by decide +kernel) rfl⟩
theorem mX6_nestInTrial : MOK yX6_nestInTrial cX6_nestInTrial 5 (some .int) 1 := ⟨mG (i := 68) (by decide +kernel) rfl, mG (i := 997) (by decide +kernel) rfl, by decide +kernel, by decide +kernel⟩
theorem vX6_nestInTrial : VOK yX6_nestInTrial := ⟨mG (i := 996) (by decide +kernel) rfl, mG (i := 27) (by decide +kernel) rfl⟩
theorem mX6_kindOf : MOK yX6_kindOf cX6_kindOf 2 (some .int) 2 := ⟨mG (i := 68) (by decide +kernel) rfl, mG (i := 981) (by decide +kernel) rfl, by decide +kernel, by decide +kernel⟩
theorem sX6_kindOf : Cond.static yX6_kindOf ∈ GW := mG (i := 980) (by decide +kernel) rfl
theorem mX6_addCloth : MOK yX6_addCloth cX6_addCloth 2 (some .int) 1 := ⟨mG (i := 68) (by decide +kernel) rfl, mG (i := 1023) (by decide +kernel) rfl, by decide +kernel, by decide +kernel⟩
theorem vX6_addCloth : VOK yX6_addCloth := ⟨mG (i := 1021) (by decide +kernel) rfl, mG (i := 1022) (by decide +kernel) rfl⟩
theorem mX6_roll : MOK yX6_roll cX6_roll 1 (some .int) 0 := ⟨mG (i := 68) (by decide +kernel) rfl, mG (i := 309) (by decide +kernel) rfl, by decide +kernel, by decide +kernel⟩
theorem vX6_roll : VOK yX6_roll := ⟨mG (i := 307) (by decide +kernel) rfl, mG (i := 308) (by decide +kernel) rfl⟩
theorem mX6_spread : MOK yX6_spread cX6_spread 4 (some .int) 1 := ⟨mG (i := 68) (by decide +kernel) rfl, mG (i := 1032) (by decide +kernel) rfl, by decide +kernel, by decide +kernel⟩
theorem vX6_spread : VOK yX6_spread := ⟨mG (i := 1030) (by decide +kernel) rfl, mG (i := 1031) (by decide +kernel) rfl⟩
theorem mX6_stockHolds : MOK yX6_stockHolds cX6_stockHolds 4 (some .boolean) 1 := ⟨mG (i := 68) (by decide +kernel) rfl, mG (i := 1038) (by decide +kernel) rfl, by decide +kernel, by decide +kernel⟩
theorem vX6_stockHolds : VOK yX6_stockHolds := ⟨mG (i := 1037) (by decide +kernel) rfl, mG (i := 30) (by decide +kernel) rfl⟩
theorem mX6_cutPlies : MOK yX6_cutPlies cX6_cutPlies 3 none 2 := ⟨mG (i := 68) (by decide +kernel) rfl, mG (i := 1048) (by decide +kernel) rfl, by decide +kernel, by decide +kernel⟩
theorem vX6_cutPlies : VOK yX6_cutPlies := ⟨mG (i := 1047) (by decide +kernel) rfl, mG (i := 32) (by decide +kernel) rfl⟩
theorem mX6_perPly : MOK yX6_perPly cX6_perPly 4 (some .int) 2 := ⟨mG (i := 68) (by decide +kernel) rfl, mG (i := 1042) (by decide +kernel) rfl, by decide +kernel, by decide +kernel⟩
theorem vX6_perPly : VOK yX6_perPly := ⟨mG (i := 1041) (by decide +kernel) rfl, mG (i := 31) (by decide +kernel) rfl⟩
theorem mX6_pieces : MOK yX6_pieces cX6_pieces 4 (some .int) 2 := ⟨mG (i := 68) (by decide +kernel) rfl, mG (i := 1059) (by decide +kernel) rfl, by decide +kernel, by decide +kernel⟩
theorem vX6_pieces : VOK yX6_pieces := ⟨mG (i := 1057) (by decide +kernel) rfl, mG (i := 1058) (by decide +kernel) rfl⟩
theorem mX6_cut : MOK yX6_cut cX6_cut 5 (some .long) 0 := ⟨mG (i := 68) (by decide +kernel) rfl, mG (i := 313) (by decide +kernel) rfl, by decide +kernel, by decide +kernel⟩
theorem vX6_cut : VOK yX6_cut := ⟨mG (i := 311) (by decide +kernel) rfl, mG (i := 312) (by decide +kernel) rfl⟩
theorem mX6_canMake : MOK yX6_canMake cX6_canMake 2 (some .int) 1 := ⟨mG (i := 68) (by decide +kernel) rfl, mG (i := 1067) (by decide +kernel) rfl, by decide +kernel, by decide +kernel⟩
theorem vX6_canMake : VOK yX6_canMake := ⟨mG (i := 1065) (by decide +kernel) rfl, mG (i := 1066) (by decide +kernel) rfl⟩
theorem mX6_garmentsInStock : MOK yX6_garmentsInStock cX6_garmentsInStock 6 (some .int) 1 := ⟨mG (i := 68) (by decide +kernel) rfl, mG (i := 1080) (by decide +kernel) rfl, by decide +kernel, by decide +kernel⟩
theorem vX6_garmentsInStock : VOK yX6_garmentsInStock := ⟨mG (i := 1079) (by decide +kernel) rfl, mG (i := 34) (by decide +kernel) rfl⟩
theorem mX6_canMakeByTaking : MOK yX6_canMakeByTaking cX6_canMakeByTaking 5 (some .int) 1 := ⟨mG (i := 68) (by decide +kernel) rfl, mG (i := 1092) (by decide +kernel) rfl, by decide +kernel, by decide +kernel⟩
theorem vX6_canMakeByTaking : VOK yX6_canMakeByTaking := ⟨mG (i := 1090) (by decide +kernel) rfl, mG (i := 1091) (by decide +kernel) rfl⟩
theorem mX6_takesGarment : MOK yX6_takesGarment cX6_takesGarment 5 (some .boolean) 1 := ⟨mG (i := 68) (by decide +kernel) rfl, mG (i := 1096) (by decide +kernel) rfl, by decide +kernel, by decide +kernel⟩
theorem vX6_takesGarment : VOK yX6_takesGarment := ⟨mG (i := 1095) (by decide +kernel) rfl, mG (i := 35) (by decide +kernel) rfl⟩
theorem mX6_takesPart : MOK yX6_takesPart cX6_takesPart 4 (some .boolean) 3 := ⟨mG (i := 68) (by decide +kernel) rfl, mG (i := 1100) (by decide +kernel) rfl, by decide +kernel, by decide +kernel⟩
theorem vX6_takesPart : VOK yX6_takesPart := ⟨mG (i := 1099) (by decide +kernel) rfl, mG (i := 36) (by decide +kernel) rfl⟩
theorem mX6_takesKind : MOK yX6_takesKind cX6_takesKind 4 (some .boolean) 2 := ⟨mG (i := 68) (by decide +kernel) rfl, mG (i := 1104) (by decide +kernel) rfl, by decide +kernel, by decide +kernel⟩
theorem vX6_takesKind : VOK yX6_takesKind := ⟨mG (i := 1103) (by decide +kernel) rfl, mG (i := 37) (by decide +kernel) rfl⟩
theorem mX6_make : MOK yX6_make cX6_make 6 (some .int) 2 := ⟨mG (i := 68) (by decide +kernel) rfl, mG (i := 1111) (by decide +kernel) rfl, by decide +kernel, by decide +kernel⟩
theorem vX6_make : VOK yX6_make := ⟨mG (i := 1109) (by decide +kernel) rfl, mG (i := 1110) (by decide +kernel) rfl⟩
theorem mX6_checkGarments : MOK yX6_checkGarments cX6_checkGarments 1 none 1 := ⟨mG (i := 68) (by decide +kernel) rfl, mG (i := 1114) (by decide +kernel) rfl, by decide +kernel, by decide +kernel⟩
theorem sX6_checkGarments : Cond.static yX6_checkGarments ∈ GW := mG (i := 1113) (by decide +kernel) rfl
theorem mX6_made : MOK yX6_made cX6_made 2 (some .int) 1 := ⟨mG (i := 68) (by decide +kernel) rfl, mG (i := 1127) (by decide +kernel) rfl, by decide +kernel, by decide +kernel⟩
theorem vX6_made : VOK yX6_made := ⟨mG (i := 1125) (by decide +kernel) rfl, mG (i := 1126) (by decide +kernel) rfl⟩
theorem mX6_pliesFor : MOK yX6_pliesFor cX6_pliesFor 7 (some .int) 2 := ⟨mG (i := 68) (by decide +kernel) rfl, mG (i := 1134) (by decide +kernel) rfl, by decide +kernel, by decide +kernel⟩
theorem vX6_pliesFor : VOK yX6_pliesFor := ⟨mG (i := 1132) (by decide +kernel) rfl, mG (i := 1133) (by decide +kernel) rfl⟩
theorem mX6_pliesForPart : MOK yX6_pliesForPart cX6_pliesForPart 5 (some .int) 2 := ⟨mG (i := 68) (by decide +kernel) rfl, mG (i := 1138) (by decide +kernel) rfl, by decide +kernel, by decide +kernel⟩
theorem vX6_pliesForPart : VOK yX6_pliesForPart := ⟨mG (i := 1137) (by decide +kernel) rfl, mG (i := 38) (by decide +kernel) rfl⟩
theorem mX6_pliesForSort : MOK yX6_pliesForSort cX6_pliesForSort 2 (some .int) 2 := ⟨mG (i := 68) (by decide +kernel) rfl, mG (i := 1141) (by decide +kernel) rfl, by decide +kernel, by decide +kernel⟩
theorem sX6_pliesForSort : Cond.static yX6_pliesForSort ∈ GW := mG (i := 1140) (by decide +kernel) rfl
theorem mX6_density : MOK yX6_density cX6_density 2 (some .float) 0 := ⟨mG (i := 68) (by decide +kernel) rfl, mG (i := 1164) (by decide +kernel) rfl, by decide +kernel, by decide +kernel⟩
theorem vX6_density : VOK yX6_density := ⟨mG (i := 1162) (by decide +kernel) rfl, mG (i := 1163) (by decide +kernel) rfl⟩
theorem mX6_meanCells : MOK yX6_meanCells cX6_meanCells 2 (some .double) 0 := ⟨mG (i := 68) (by decide +kernel) rfl, mG (i := 1174) (by decide +kernel) rfl, by decide +kernel, by decide +kernel⟩
theorem vX6_meanCells : VOK yX6_meanCells := ⟨mG (i := 1172) (by decide +kernel) rfl, mG (i := 1173) (by decide +kernel) rfl⟩
theorem mX6_isSound : MOK yX6_isSound cX6_isSound 3 (some .boolean) 0 := ⟨mG (i := 68) (by decide +kernel) rfl, mG (i := 321) (by decide +kernel) rfl, by decide +kernel, by decide +kernel⟩
theorem vX6_isSound : VOK yX6_isSound := ⟨mG (i := 319) (by decide +kernel) rfl, mG (i := 320) (by decide +kernel) rfl⟩
theorem mX6_inGarments : MOK yX6_inGarments cX6_inGarments 6 (some .long) 1 := ⟨mG (i := 68) (by decide +kernel) rfl, mG (i := 334) (by decide +kernel) rfl, by decide +kernel, by decide +kernel⟩
theorem vX6_inGarments : VOK yX6_inGarments := ⟨mG (i := 333) (by decide +kernel) rfl, mG (i := 5) (by decide +kernel) rfl⟩
theorem mX6_isWithin : MOK yX6_isWithin cX6_isWithin 3 (some .boolean) 3 := ⟨mG (i := 68) (by decide +kernel) rfl, mG (i := 351) (by decide +kernel) rfl, by decide +kernel, by decide +kernel⟩
theorem sX6_isWithin : Cond.static yX6_isWithin ∈ GW := mG (i := 350) (by decide +kernel) rfl
theorem mX6_entry : MOK yX6_entry cX6_entry 2 (some .int) 2 := ⟨mG (i := 68) (by decide +kernel) rfl, mG (i := 258) (by decide +kernel) rfl, by decide +kernel, by decide +kernel⟩
theorem sX6_entry : Cond.static yX6_entry ∈ GW := mG (i := 257) (by decide +kernel) rfl
theorem mX6_store : MOK yX6_store cX6_store 3 none 3 := ⟨mG (i := 68) (by decide +kernel) rfl, mG (i := 272) (by decide +kernel) rfl, by decide +kernel, by decide +kernel⟩
theorem sX6_store : Cond.static yX6_store ∈ GW := mG (i := 271) (by decide +kernel) rfl
theorem mX6_hasBit : MOK yX6_hasBit cX6_hasBit 2 (some .boolean) 2 := ⟨mG (i := 68) (by decide +kernel) rfl, mG (i := 265) (by decide +kernel) rfl, by decide +kernel, by decide +kernel⟩
theorem sX6_hasBit : Cond.static yX6_hasBit ∈ GW := mG (i := 264) (by decide +kernel) rfl
theorem mX6_firstBit : MOK yX6_firstBit cX6_firstBit 2 (some .int) 1 := ⟨mG (i := 68) (by decide +kernel) rfl, mG (i := 674) (by decide +kernel) rfl, by decide +kernel, by decide +kernel⟩
theorem sX6_firstBit : Cond.static yX6_firstBit ∈ GW := mG (i := 673) (by decide +kernel) rfl
theorem mX6_endOfBits : MOK yX6_endOfBits cX6_endOfBits 2 (some .int) 1 := ⟨mG (i := 68) (by decide +kernel) rfl, mG (i := 678) (by decide +kernel) rfl, by decide +kernel, by decide +kernel⟩
theorem sX6_endOfBits : Cond.static yX6_endOfBits ∈ GW := mG (i := 677) (by decide +kernel) rfl
theorem mX7_init : MOK yX7_init cX7_init 2 none 0 := ⟨mG (i := 73) (by decide +kernel) rfl, mG (i := 1179) (by decide +kernel) rfl, by decide +kernel, by decide +kernel⟩
theorem mX7_thrown : MOK yX7_thrown cX7_thrown 1 (some .int) 0 := ⟨mG (i := 73) (by decide +kernel) rfl, mG (i := 1338) (by decide +kernel) rfl, by decide +kernel, by decide +kernel⟩
theorem vX7_thrown : VOK yX7_thrown := ⟨mG (i := 1336) (by decide +kernel) rfl, mG (i := 1337) (by decide +kernel) rfl⟩
theorem mX7_fails : MOK yX7_fails cX7_fails 2 (some .boolean) 1 := ⟨mG (i := 73) (by decide +kernel) rfl, mG (i := 1349) (by decide +kernel) rfl, by decide +kernel, by decide +kernel⟩
theorem vX7_fails : VOK yX7_fails := ⟨mG (i := 1348) (by decide +kernel) rfl, mG (i := 40) (by decide +kernel) rfl⟩
theorem mX7_in : MOK yX7_in cX7_in 3 (some .boolean) 3 := ⟨mG (i := 73) (by decide +kernel) rfl, mG (i := 1345) (by decide +kernel) rfl, by decide +kernel, by decide +kernel⟩
theorem sX7_in : Cond.static yX7_in ∈ GW := mG (i := 1344) (by decide +kernel) rfl
theorem mX7_empties : MOK yX7_empties cX7_empties 2 none 0 := ⟨mG (i := 73) (by decide +kernel) rfl, mG (i := 1184) (by decide +kernel) rfl, by decide +kernel, by decide +kernel⟩
theorem vX7_empties : VOK yX7_empties := ⟨mG (i := 1183) (by decide +kernel) rfl, mG (i := 39) (by decide +kernel) rfl⟩
theorem mX7_columns : MOK yX7_columns cX7_columns 1 (some .int) 0 := ⟨mG (i := 73) (by decide +kernel) rfl, mG (i := 1419) (by decide +kernel) rfl, by decide +kernel, by decide +kernel⟩
theorem vX7_columns : VOK yX7_columns := ⟨mG (i := 1418) (by decide +kernel) rfl, mG (i := 48) (by decide +kernel) rfl⟩
theorem mX7_isBad : MOK yX7_isBad cX7_isBad 3 (some .boolean) 2 := ⟨mG (i := 73) (by decide +kernel) rfl, mG (i := 1423) (by decide +kernel) rfl, by decide +kernel, by decide +kernel⟩
theorem vX7_isBad : VOK yX7_isBad := ⟨mG (i := 1422) (by decide +kernel) rfl, mG (i := 49) (by decide +kernel) rfl⟩
theorem mX7_setCloth : MOK yX7_setCloth cX7_setCloth 5 (some .int) 3 := ⟨mG (i := 73) (by decide +kernel) rfl, mG (i := 1342) (by decide +kernel) rfl, by decide +kernel, by decide +kernel⟩
theorem vX7_setCloth : VOK yX7_setCloth := ⟨mG (i := 1340) (by decide +kernel) rfl, mG (i := 1341) (by decide +kernel) rfl⟩
theorem mX7_fold : MOK yX7_fold cX7_fold 3 (some .boolean) 1 := ⟨mG (i := 73) (by decide +kernel) rfl, mG (i := 1353) (by decide +kernel) rfl, by decide +kernel, by decide +kernel⟩
theorem vX7_fold : VOK yX7_fold := ⟨mG (i := 1351) (by decide +kernel) rfl, mG (i := 1352) (by decide +kernel) rfl⟩
theorem mX7_isUnderPiece : MOK yX7_isUnderPiece cX7_isUnderPiece 4 (some .boolean) 2 := ⟨mG (i := 73) (by decide +kernel) rfl, mG (i := 1361) (by decide +kernel) rfl, by decide +kernel, by decide +kernel⟩
theorem vX7_isUnderPiece : VOK yX7_isUnderPiece := ⟨mG (i := 1360) (by decide +kernel) rfl, mG (i := 41) (by decide +kernel) rfl⟩
theorem mX7_addFlaw : MOK yX7_addFlaw cX7_addFlaw 4 (some .int) 2 := ⟨mG (i := 73) (by decide +kernel) rfl, mG (i := 1357) (by decide +kernel) rfl, by decide +kernel, by decide +kernel⟩
theorem vX7_addFlaw : VOK yX7_addFlaw := ⟨mG (i := 1355) (by decide +kernel) rfl, mG (i := 1356) (by decide +kernel) rfl⟩
theorem mX7_clearFlaws : MOK yX7_clearFlaws cX7_clearFlaws 3 (some .int) 0 := ⟨mG (i := 73) (by decide +kernel) rfl, mG (i := 1365) (by decide +kernel) rfl, by decide +kernel, by decide +kernel⟩
theorem vX7_clearFlaws : VOK yX7_clearFlaws := ⟨mG (i := 1363) (by decide +kernel) rfl, mG (i := 1364) (by decide +kernel) rfl⟩
theorem mX7_isShape : MOK yX7_isShape cX7_isShape 2 (some .boolean) 1 := ⟨mG (i := 73) (by decide +kernel) rfl, mG (i := 1377) (by decide +kernel) rfl, by decide +kernel, by decide +kernel⟩
theorem vX7_isShape : VOK yX7_isShape := ⟨mG (i := 1376) (by decide +kernel) rfl, mG (i := 42) (by decide +kernel) rfl⟩
theorem mX7_addShape : MOK yX7_addShape cX7_addShape 4 (some .int) 2 := ⟨mG (i := 73) (by decide +kernel) rfl, mG (i := 1369) (by decide +kernel) rfl, by decide +kernel, by decide +kernel⟩
theorem vX7_addShape : VOK yX7_addShape := ⟨mG (i := 1367) (by decide +kernel) rfl, mG (i := 1368) (by decide +kernel) rfl⟩
theorem mX7_isLaid : MOK yX7_isLaid cX7_isLaid 4 (some .boolean) 1 := ⟨mG (i := 73) (by decide +kernel) rfl, mG (i := 1381) (by decide +kernel) rfl, by decide +kernel, by decide +kernel⟩
theorem vX7_isLaid : VOK yX7_isLaid := ⟨mG (i := 1380) (by decide +kernel) rfl, mG (i := 43) (by decide +kernel) rfl⟩
theorem mX7_addCell : MOK yX7_addCell cX7_addCell 6 (some .int) 3 := ⟨mG (i := 73) (by decide +kernel) rfl, mG (i := 1373) (by decide +kernel) rfl, by decide +kernel, by decide +kernel⟩
theorem vX7_addCell : VOK yX7_addCell := ⟨mG (i := 1371) (by decide +kernel) rfl, mG (i := 1372) (by decide +kernel) rfl⟩
theorem mX7_setMark : MOK yX7_setMark cX7_setMark 7 (some .int) 4 := ⟨mG (i := 73) (by decide +kernel) rfl, mG (i := 1385) (by decide +kernel) rfl, by decide +kernel, by decide +kernel⟩
theorem vX7_setMark : VOK yX7_setMark := ⟨mG (i := 1383) (by decide +kernel) rfl, mG (i := 1384) (by decide +kernel) rfl⟩
theorem mX7_cellsOf : MOK yX7_cellsOf cX7_cellsOf 2 (some .int) 1 := ⟨mG (i := 73) (by decide +kernel) rfl, mG (i := 1389) (by decide +kernel) rfl, by decide +kernel, by decide +kernel⟩
theorem vX7_cellsOf : VOK yX7_cellsOf := ⟨mG (i := 1387) (by decide +kernel) rfl, mG (i := 1388) (by decide +kernel) rfl⟩
theorem mX7_turnedRow : MOK yX7_turnedRow cX7_turnedRow 3 (some .int) 3 := ⟨mG (i := 73) (by decide +kernel) rfl, mG (i := 1408) (by decide +kernel) rfl, by decide +kernel, by decide +kernel⟩
theorem sX7_turnedRow : Cond.static yX7_turnedRow ∈ GW := mG (i := 1407) (by decide +kernel) rfl
theorem mX7_turnedColumn : MOK yX7_turnedColumn cX7_turnedColumn 3 (some .int) 3 := ⟨mG (i := 73) (by decide +kernel) rfl, mG (i := 1411) (by decide +kernel) rfl, by decide +kernel, by decide +kernel⟩
theorem sX7_turnedColumn : Cond.static yX7_turnedColumn ∈ GW := mG (i := 1410) (by decide +kernel) rfl
theorem mX7_turns : MOK yX7_turns cX7_turns 8 none 3 := ⟨mG (i := 73) (by decide +kernel) rfl, mG (i := 1405) (by decide +kernel) rfl, by decide +kernel, by decide +kernel⟩
theorem vX7_turns : VOK yX7_turns := ⟨mG (i := 1404) (by decide +kernel) rfl, mG (i := 46) (by decide +kernel) rfl⟩
theorem mX7_mayTurn : MOK yX7_mayTurn cX7_mayTurn 3 (some .boolean) 2 := ⟨mG (i := 73) (by decide +kernel) rfl, mG (i := 1401) (by decide +kernel) rfl, by decide +kernel, by decide +kernel⟩
theorem vX7_mayTurn : VOK yX7_mayTurn := ⟨mG (i := 1400) (by decide +kernel) rfl, mG (i := 45) (by decide +kernel) rfl⟩
theorem mX7_isMarked : MOK yX7_isMarked cX7_isMarked 2 (some .boolean) 1 := ⟨mG (i := 73) (by decide +kernel) rfl, mG (i := 1427) (by decide +kernel) rfl, by decide +kernel, by decide +kernel⟩
theorem vX7_isMarked : VOK yX7_isMarked := ⟨mG (i := 1426) (by decide +kernel) rfl, mG (i := 50) (by decide +kernel) rfl⟩
theorem mX7_remainder : MOK yX7_remainder cX7_remainder 3 (some .int) 1 := ⟨mG (i := 73) (by decide +kernel) rfl, mG (i := 1431) (by decide +kernel) rfl, by decide +kernel, by decide +kernel⟩
theorem vX7_remainder : VOK yX7_remainder := ⟨mG (i := 1430) (by decide +kernel) rfl, mG (i := 51) (by decide +kernel) rfl⟩
theorem mX7_worst : MOK yX7_worst cX7_worst 8 (some .int) 2 := ⟨mG (i := 73) (by decide +kernel) rfl, mG (i := 1415) (by decide +kernel) rfl, by decide +kernel, by decide +kernel⟩
theorem vX7_worst : VOK yX7_worst := ⟨mG (i := 1414) (by decide +kernel) rfl, mG (i := 47) (by decide +kernel) rfl⟩
theorem mX7_reasonFor : MOK yX7_reasonFor cX7_reasonFor 8 (some .char) 5 := ⟨mG (i := 73) (by decide +kernel) rfl, mG (i := 1397) (by decide +kernel) rfl, by decide +kernel, by decide +kernel⟩
theorem vX7_reasonFor : VOK yX7_reasonFor := ⟨mG (i := 1396) (by decide +kernel) rfl, mG (i := 44) (by decide +kernel) rfl⟩
theorem mX7_puts : MOK yX7_puts cX7_puts 7 (some .int) 5 := ⟨mG (i := 73) (by decide +kernel) rfl, mG (i := 1435) (by decide +kernel) rfl, by decide +kernel, by decide +kernel⟩
theorem vX7_puts : VOK yX7_puts := ⟨mG (i := 1434) (by decide +kernel) rfl, mG (i := 52) (by decide +kernel) rfl⟩
theorem mX7_takes : MOK yX7_takes cX7_takes 4 none 1 := ⟨mG (i := 73) (by decide +kernel) rfl, mG (i := 1459) (by decide +kernel) rfl, by decide +kernel, by decide +kernel⟩
theorem vX7_takes : VOK yX7_takes := ⟨mG (i := 1458) (by decide +kernel) rfl, mG (i := 55) (by decide +kernel) rfl⟩
theorem mX7_lay : MOK yX7_lay cX7_lay 6 (some .int) 5 := ⟨mG (i := 73) (by decide +kernel) rfl, mG (i := 1393) (by decide +kernel) rfl, by decide +kernel, by decide +kernel⟩
theorem vX7_lay : VOK yX7_lay := ⟨mG (i := 1391) (by decide +kernel) rfl, mG (i := 1392) (by decide +kernel) rfl⟩
theorem mX7_reason : MOK yX7_reason cX7_reason 6 (some .char) 5 := ⟨mG (i := 73) (by decide +kernel) rfl, mG (i := 1439) (by decide +kernel) rfl, by decide +kernel, by decide +kernel⟩
theorem vX7_reason : VOK yX7_reason := ⟨mG (i := 1437) (by decide +kernel) rfl, mG (i := 1438) (by decide +kernel) rfl⟩
theorem mX7_isNested : MOK yX7_isNested cX7_isNested 4 (some .boolean) 2 := ⟨mG (i := 73) (by decide +kernel) rfl, mG (i := 1447) (by decide +kernel) rfl, by decide +kernel, by decide +kernel⟩
theorem vX7_isNested : VOK yX7_isNested := ⟨mG (i := 1446) (by decide +kernel) rfl, mG (i := 53) (by decide +kernel) rfl⟩
theorem mX7_nest : MOK yX7_nest cX7_nest 3 (some .int) 2 := ⟨mG (i := 73) (by decide +kernel) rfl, mG (i := 1443) (by decide +kernel) rfl, by decide +kernel, by decide +kernel⟩
theorem vX7_nest : VOK yX7_nest := ⟨mG (i := 1441) (by decide +kernel) rfl, mG (i := 1442) (by decide +kernel) rfl⟩
theorem mX7_placeOf : MOK yX7_placeOf cX7_placeOf 4 (some .int) 1 := ⟨mG (i := 73) (by decide +kernel) rfl, mG (i := 1455) (by decide +kernel) rfl, by decide +kernel, by decide +kernel⟩
theorem vX7_placeOf : VOK yX7_placeOf := ⟨mG (i := 1454) (by decide +kernel) rfl, mG (i := 54) (by decide +kernel) rfl⟩
theorem mX7_longest : MOK yX7_longest cX7_longest 3 (some .int) 0 := ⟨mG (i := 73) (by decide +kernel) rfl, mG (i := 1463) (by decide +kernel) rfl, by decide +kernel, by decide +kernel⟩
theorem vX7_longest : VOK yX7_longest := ⟨mG (i := 1462) (by decide +kernel) rfl, mG (i := 56) (by decide +kernel) rfl⟩
theorem mX7_takeOff : MOK yX7_takeOff cX7_takeOff 2 (some .int) 1 := ⟨mG (i := 73) (by decide +kernel) rfl, mG (i := 1451) (by decide +kernel) rfl, by decide +kernel, by decide +kernel⟩
theorem vX7_takeOff : VOK yX7_takeOff := ⟨mG (i := 1449) (by decide +kernel) rfl, mG (i := 1450) (by decide +kernel) rfl⟩
theorem mX7_clear : MOK yX7_clear cX7_clear 2 (some .int) 0 := ⟨mG (i := 73) (by decide +kernel) rfl, mG (i := 1467) (by decide +kernel) rfl, by decide +kernel, by decide +kernel⟩
theorem vX7_clear : VOK yX7_clear := ⟨mG (i := 1465) (by decide +kernel) rfl, mG (i := 1466) (by decide +kernel) rfl⟩
theorem mX7_inMarker : MOK yX7_inMarker cX7_inMarker 1 (some .int) 0 := ⟨mG (i := 73) (by decide +kernel) rfl, mG (i := 1471) (by decide +kernel) rfl, by decide +kernel, by decide +kernel⟩
theorem vX7_inMarker : VOK yX7_inMarker := ⟨mG (i := 1469) (by decide +kernel) rfl, mG (i := 1470) (by decide +kernel) rfl⟩
theorem mX7_rowOf : MOK yX7_rowOf cX7_rowOf 2 (some .int) 1 := ⟨mG (i := 73) (by decide +kernel) rfl, mG (i := 1475) (by decide +kernel) rfl, by decide +kernel, by decide +kernel⟩
theorem vX7_rowOf : VOK yX7_rowOf := ⟨mG (i := 1473) (by decide +kernel) rfl, mG (i := 1474) (by decide +kernel) rfl⟩
theorem mX7_columnOf : MOK yX7_columnOf cX7_columnOf 2 (some .int) 1 := ⟨mG (i := 73) (by decide +kernel) rfl, mG (i := 1479) (by decide +kernel) rfl, by decide +kernel, by decide +kernel⟩
theorem vX7_columnOf : VOK yX7_columnOf := ⟨mG (i := 1477) (by decide +kernel) rfl, mG (i := 1478) (by decide +kernel) rfl⟩
theorem mX7_turnsOf : MOK yX7_turnsOf cX7_turnsOf 2 (some .int) 1 := ⟨mG (i := 73) (by decide +kernel) rfl, mG (i := 1483) (by decide +kernel) rfl, by decide +kernel, by decide +kernel⟩
theorem vX7_turnsOf : VOK yX7_turnsOf := ⟨mG (i := 1481) (by decide +kernel) rfl, mG (i := 1482) (by decide +kernel) rfl⟩
theorem mX7_pieceAt : MOK yX7_pieceAt cX7_pieceAt 4 (some .int) 2 := ⟨mG (i := 73) (by decide +kernel) rfl, mG (i := 1487) (by decide +kernel) rfl, by decide +kernel, by decide +kernel⟩
theorem vX7_pieceAt : VOK yX7_pieceAt := ⟨mG (i := 1485) (by decide +kernel) rfl, mG (i := 1486) (by decide +kernel) rfl⟩
theorem mX7_pieceByPieces : MOK yX7_pieceByPieces cX7_pieceByPieces 3 (some .int) 2 := ⟨mG (i := 73) (by decide +kernel) rfl, mG (i := 1491) (by decide +kernel) rfl, by decide +kernel, by decide +kernel⟩
theorem vX7_pieceByPieces : VOK yX7_pieceByPieces := ⟨mG (i := 1489) (by decide +kernel) rfl, mG (i := 1490) (by decide +kernel) rfl⟩
theorem mX7_length : MOK yX7_length cX7_length 1 (some .int) 0 := ⟨mG (i := 73) (by decide +kernel) rfl, mG (i := 1496) (by decide +kernel) rfl, by decide +kernel, by decide +kernel⟩
theorem vX7_length : VOK yX7_length := ⟨mG (i := 1494) (by decide +kernel) rfl, mG (i := 1495) (by decide +kernel) rfl⟩
theorem mX7_cellsUsed : MOK yX7_cellsUsed cX7_cellsUsed 3 (some .int) 0 := ⟨mG (i := 73) (by decide +kernel) rfl, mG (i := 1504) (by decide +kernel) rfl, by decide +kernel, by decide +kernel⟩
theorem vX7_cellsUsed : VOK yX7_cellsUsed := ⟨mG (i := 1503) (by decide +kernel) rfl, mG (i := 57) (by decide +kernel) rfl⟩
theorem mX7_used : MOK yX7_used cX7_used 1 (some .int) 0 := ⟨mG (i := 73) (by decide +kernel) rfl, mG (i := 1500) (by decide +kernel) rfl, by decide +kernel, by decide +kernel⟩
theorem vX7_used : VOK yX7_used := ⟨mG (i := 1498) (by decide +kernel) rfl, mG (i := 1499) (by decide +kernel) rfl⟩
theorem mX7_phase : MOK yX7_phase cX7_phase 2 (some .int) 1 := ⟨mG (i := 73) (by decide +kernel) rfl, mG (i := 1508) (by decide +kernel) rfl, by decide +kernel, by decide +kernel⟩
theorem vX7_phase : VOK yX7_phase := ⟨mG (i := 1506) (by decide +kernel) rfl, mG (i := 1507) (by decide +kernel) rfl⟩
theorem mX7_isStyle : MOK yX7_isStyle cX7_isStyle 2 (some .boolean) 1 := ⟨mG (i := 73) (by decide +kernel) rfl, mG (i := 1520) (by decide +kernel) rfl, by decide +kernel, by decide +kernel⟩
theorem vX7_isStyle : VOK yX7_isStyle := ⟨mG (i := 1519) (by decide +kernel) rfl, mG (i := 58) (by decide +kernel) rfl⟩
theorem mX7_addStyle : MOK yX7_addStyle cX7_addStyle 1 (some .int) 0 := ⟨mG (i := 73) (by decide +kernel) rfl, mG (i := 1512) (by decide +kernel) rfl, by decide +kernel, by decide +kernel⟩
theorem vX7_addStyle : VOK yX7_addStyle := ⟨mG (i := 1510) (by decide +kernel) rfl, mG (i := 1511) (by decide +kernel) rfl⟩
theorem mX7_takenBy : MOK yX7_takenBy cX7_takenBy 4 (some .int) 1 := ⟨mG (i := 73) (by decide +kernel) rfl, mG (i := 1524) (by decide +kernel) rfl, by decide +kernel, by decide +kernel⟩
theorem vX7_takenBy : VOK yX7_takenBy := ⟨mG (i := 1523) (by decide +kernel) rfl, mG (i := 59) (by decide +kernel) rfl⟩
theorem mX7_addPart : MOK yX7_addPart cX7_addPart 5 (some .int) 3 := ⟨mG (i := 73) (by decide +kernel) rfl, mG (i := 1516) (by decide +kernel) rfl, by decide +kernel, by decide +kernel⟩
theorem vX7_addPart : VOK yX7_addPart := ⟨mG (i := 1514) (by decide +kernel) rfl, mG (i := 1515) (by decide +kernel) rfl⟩
theorem mX7_piecesFor : MOK yX7_piecesFor cX7_piecesFor 2 (some .int) 1 := ⟨mG (i := 73) (by decide +kernel) rfl, mG (i := 1528) (by decide +kernel) rfl, by decide +kernel, by decide +kernel⟩
theorem vX7_piecesFor : VOK yX7_piecesFor := ⟨mG (i := 1526) (by decide +kernel) rfl, mG (i := 1527) (by decide +kernel) rfl⟩
theorem mX7_queues : MOK yX7_queues cX7_queues 8 (some .boolean) 1 := ⟨mG (i := 73) (by decide +kernel) rfl, mG (i := 1536) (by decide +kernel) rfl, by decide +kernel, by decide +kernel⟩
theorem vX7_queues : VOK yX7_queues := ⟨mG (i := 1535) (by decide +kernel) rfl, mG (i := 60) (by decide +kernel) rfl⟩
theorem mX7_tries : MOK yX7_tries cX7_tries 4 none 1 := ⟨mG (i := 73) (by decide +kernel) rfl, mG (i := 1544) (by decide +kernel) rfl, by decide +kernel, by decide +kernel⟩
theorem vX7_tries : VOK yX7_tries := ⟨mG (i := 1543) (by decide +kernel) rfl, mG (i := 62) (by decide +kernel) rfl⟩
theorem mX7_leastLength : MOK yX7_leastLength cX7_leastLength 5 (some .int) 0 := ⟨mG (i := 73) (by decide +kernel) rfl, mG (i := 1540) (by decide +kernel) rfl, by decide +kernel, by decide +kernel⟩
theorem vX7_leastLength : VOK yX7_leastLength := ⟨mG (i := 1539) (by decide +kernel) rfl, mG (i := 61) (by decide +kernel) rfl⟩
theorem mX7_nestedLength : MOK yX7_nestedLength cX7_nestedLength 3 (some .int) 1 := ⟨mG (i := 73) (by decide +kernel) rfl, mG (i := 1532) (by decide +kernel) rfl, by decide +kernel, by decide +kernel⟩
theorem vX7_nestedLength : VOK yX7_nestedLength := ⟨mG (i := 1530) (by decide +kernel) rfl, mG (i := 1531) (by decide +kernel) rfl⟩
theorem mX7_nestedByTrying : MOK yX7_nestedByTrying cX7_nestedByTrying 2 (some .int) 1 := ⟨mG (i := 73) (by decide +kernel) rfl, mG (i := 1548) (by decide +kernel) rfl, by decide +kernel, by decide +kernel⟩
theorem vX7_nestedByTrying : VOK yX7_nestedByTrying := ⟨mG (i := 1546) (by decide +kernel) rfl, mG (i := 1547) (by decide +kernel) rfl⟩
theorem mX7_addCloth : MOK yX7_addCloth cX7_addCloth 2 (some .int) 1 := ⟨mG (i := 73) (by decide +kernel) rfl, mG (i := 1553) (by decide +kernel) rfl, by decide +kernel, by decide +kernel⟩
theorem vX7_addCloth : VOK yX7_addCloth := ⟨mG (i := 1551) (by decide +kernel) rfl, mG (i := 1552) (by decide +kernel) rfl⟩
theorem mX7_roll : MOK yX7_roll cX7_roll 1 (some .int) 0 := ⟨mG (i := 73) (by decide +kernel) rfl, mG (i := 1558) (by decide +kernel) rfl, by decide +kernel, by decide +kernel⟩
theorem vX7_roll : VOK yX7_roll := ⟨mG (i := 1556) (by decide +kernel) rfl, mG (i := 1557) (by decide +kernel) rfl⟩
theorem mX7_givenBy : MOK yX7_givenBy cX7_givenBy 7 (some .int) 2 := ⟨mG (i := 73) (by decide +kernel) rfl, mG (i := 1574) (by decide +kernel) rfl, by decide +kernel, by decide +kernel⟩
theorem vX7_givenBy : VOK yX7_givenBy := ⟨mG (i := 1573) (by decide +kernel) rfl, mG (i := 65) (by decide +kernel) rfl⟩
theorem mX7_isMuch : MOK yX7_isMuch cX7_isMuch 4 (some .boolean) 1 := ⟨mG (i := 73) (by decide +kernel) rfl, mG (i := 1570) (by decide +kernel) rfl, by decide +kernel, by decide +kernel⟩
theorem vX7_isMuch : VOK yX7_isMuch := ⟨mG (i := 1569) (by decide +kernel) rfl, mG (i := 64) (by decide +kernel) rfl⟩
theorem mX7_takenFromRoll : MOK yX7_takenFromRoll cX7_takenFromRoll 2 (some .int) 1 := ⟨mG (i := 73) (by decide +kernel) rfl, mG (i := 1566) (by decide +kernel) rfl, by decide +kernel, by decide +kernel⟩
theorem vX7_takenFromRoll : VOK yX7_takenFromRoll := ⟨mG (i := 1565) (by decide +kernel) rfl, mG (i := 63) (by decide +kernel) rfl⟩
theorem mX7_spread : MOK yX7_spread cX7_spread 4 (some .int) 1 := ⟨mG (i := 73) (by decide +kernel) rfl, mG (i := 1562) (by decide +kernel) rfl, by decide +kernel, by decide +kernel⟩
theorem vX7_spread : VOK yX7_spread := ⟨mG (i := 1560) (by decide +kernel) rfl, mG (i := 1561) (by decide +kernel) rfl⟩
theorem mX7_pieces : MOK yX7_pieces cX7_pieces 3 (some .int) 2 := ⟨mG (i := 73) (by decide +kernel) rfl, mG (i := 1578) (by decide +kernel) rfl, by decide +kernel, by decide +kernel⟩
theorem vX7_pieces : VOK yX7_pieces := ⟨mG (i := 1576) (by decide +kernel) rfl, mG (i := 1577) (by decide +kernel) rfl⟩
theorem mX7_makes : MOK yX7_makes cX7_makes 8 (some .int) 2 := ⟨mG (i := 73) (by decide +kernel) rfl, mG (i := 1586) (by decide +kernel) rfl, by decide +kernel, by decide +kernel⟩
theorem vX7_makes : VOK yX7_makes := ⟨mG (i := 1585) (by decide +kernel) rfl, mG (i := 66) (by decide +kernel) rfl⟩
theorem mX7_canMake : MOK yX7_canMake cX7_canMake 2 (some .int) 1 := ⟨mG (i := 73) (by decide +kernel) rfl, mG (i := 1582) (by decide +kernel) rfl, by decide +kernel, by decide +kernel⟩
theorem vX7_canMake : VOK yX7_canMake := ⟨mG (i := 1580) (by decide +kernel) rfl, mG (i := 1581) (by decide +kernel) rfl⟩
theorem mX7_canMakeByTaking : MOK yX7_canMakeByTaking cX7_canMakeByTaking 2 (some .int) 1 := ⟨mG (i := 73) (by decide +kernel) rfl, mG (i := 1591) (by decide +kernel) rfl, by decide +kernel, by decide +kernel⟩
theorem vX7_canMakeByTaking : VOK yX7_canMakeByTaking := ⟨mG (i := 1589) (by decide +kernel) rfl, mG (i := 1590) (by decide +kernel) rfl⟩
theorem mX7_make : MOK yX7_make cX7_make 5 (some .int) 2 := ⟨mG (i := 73) (by decide +kernel) rfl, mG (i := 1596) (by decide +kernel) rfl, by decide +kernel, by decide +kernel⟩
theorem vX7_make : VOK yX7_make := ⟨mG (i := 1594) (by decide +kernel) rfl, mG (i := 1595) (by decide +kernel) rfl⟩
theorem mX7_made : MOK yX7_made cX7_made 2 (some .int) 1 := ⟨mG (i := 73) (by decide +kernel) rfl, mG (i := 1600) (by decide +kernel) rfl, by decide +kernel, by decide +kernel⟩
theorem vX7_made : VOK yX7_made := ⟨mG (i := 1598) (by decide +kernel) rfl, mG (i := 1599) (by decide +kernel) rfl⟩
theorem mX7_pliesFor : MOK yX7_pliesFor cX7_pliesFor 4 (some .int) 2 := ⟨mG (i := 73) (by decide +kernel) rfl, mG (i := 1604) (by decide +kernel) rfl, by decide +kernel, by decide +kernel⟩
theorem vX7_pliesFor : VOK yX7_pliesFor := ⟨mG (i := 1602) (by decide +kernel) rfl, mG (i := 1603) (by decide +kernel) rfl⟩
theorem mX7_cut : MOK yX7_cut cX7_cut 1 (some .long) 0 := ⟨mG (i := 73) (by decide +kernel) rfl, mG (i := 1608) (by decide +kernel) rfl, by decide +kernel, by decide +kernel⟩
theorem vX7_cut : VOK yX7_cut := ⟨mG (i := 1606) (by decide +kernel) rfl, mG (i := 1607) (by decide +kernel) rfl⟩
theorem mX7_density : MOK yX7_density cX7_density 1 (some .float) 0 := ⟨mG (i := 73) (by decide +kernel) rfl, mG (i := 1612) (by decide +kernel) rfl, by decide +kernel, by decide +kernel⟩
theorem vX7_density : VOK yX7_density := ⟨mG (i := 1610) (by decide +kernel) rfl, mG (i := 1611) (by decide +kernel) rfl⟩
theorem mX7_meanCells : MOK yX7_meanCells cX7_meanCells 1 (some .double) 0 := ⟨mG (i := 73) (by decide +kernel) rfl, mG (i := 1616) (by decide +kernel) rfl, by decide +kernel, by decide +kernel⟩
theorem vX7_meanCells : VOK yX7_meanCells := ⟨mG (i := 1614) (by decide +kernel) rfl, mG (i := 1615) (by decide +kernel) rfl⟩
theorem mX7_isSound : MOK yX7_isSound cX7_isSound 5 (some .boolean) 0 := ⟨mG (i := 73) (by decide +kernel) rfl, mG (i := 1620) (by decide +kernel) rfl, by decide +kernel, by decide +kernel⟩
theorem vX7_isSound : VOK yX7_isSound := ⟨mG (i := 1618) (by decide +kernel) rfl, mG (i := 1619) (by decide +kernel) rfl⟩
theorem mJ9_floorMod_7cf53 : MOK yJ9_floorMod_7cf53 cJ9_floorMod_7cf53 3 (some .int) 2 := ⟨mG (i := 85) (by decide +kernel) rfl, mG (i := 744) (by decide +kernel) rfl, by decide +kernel, by decide +kernel⟩
theorem sJ9_floorMod_7cf53 : Cond.static yJ9_floorMod_7cf53 ∈ GW := mG (i := 743) (by decide +kernel) rfl
theorem mJ9_max_7cf53 : MOK yJ9_max_7cf53 cJ9_max_7cf53 2 (some .int) 2 := ⟨mG (i := 85) (by decide +kernel) rfl, mG (i := 844) (by decide +kernel) rfl, by decide +kernel, by decide +kernel⟩
theorem sJ9_max_7cf53 : Cond.static yJ9_max_7cf53 ∈ GW := mG (i := 843) (by decide +kernel) rfl
theorem mJ9_min_7cf53 : MOK yJ9_min_7cf53 cJ9_min_7cf53 2 (some .int) 2 := ⟨mG (i := 85) (by decide +kernel) rfl, mG (i := 989) (by decide +kernel) rfl, by decide +kernel, by decide +kernel⟩
theorem sJ9_min_7cf53 : Cond.static yJ9_min_7cf53 ∈ GW := mG (i := 988) (by decide +kernel) rfl
theorem mJ7_fill_53178 : MOK yJ7_fill_53178 cJ7_fill_53178 4 none 2 := ⟨mG (i := 72) (by decide +kernel) rfl, mG (i := 176) (by decide +kernel) rfl, by decide +kernel, by decide +kernel⟩
theorem sJ7_fill_53178 : Cond.static yJ7_fill_53178 ∈ GW := mG (i := 175) (by decide +kernel) rfl
theorem sL_setCloth : Cond.static yL_setCloth ∈ GW := mG (i := 341) (by decide +kernel) rfl
theorem sL_fold : Cond.static yL_fold ∈ GW := mG (i := 441) (by decide +kernel) rfl
theorem sL_addFlaw : Cond.static yL_addFlaw ∈ GW := mG (i := 453) (by decide +kernel) rfl
theorem sL_addShape : Cond.static yL_addShape ∈ GW := mG (i := 496) (by decide +kernel) rfl
theorem sL_addCell : Cond.static yL_addCell ∈ GW := mG (i := 583) (by decide +kernel) rfl
theorem sL_setMark : Cond.static yL_setMark ∈ GW := mG (i := 680) (by decide +kernel) rfl
theorem sL_cellsOf : Cond.static yL_cellsOf ∈ GW := mG (i := 693) (by decide +kernel) rfl
theorem sL_lay : Cond.static yL_lay ∈ GW := mG (i := 700) (by decide +kernel) rfl
theorem sL_reason : Cond.static yL_reason ∈ GW := mG (i := 769) (by decide +kernel) rfl
theorem sL_nest : Cond.static yL_nest ∈ GW := mG (i := 776) (by decide +kernel) rfl
theorem sL_takeOff : Cond.static yL_takeOff ∈ GW := mG (i := 811) (by decide +kernel) rfl
theorem sL_rowOf : Cond.static yL_rowOf ∈ GW := mG (i := 846) (by decide +kernel) rfl
theorem sL_columnOf : Cond.static yL_columnOf ∈ GW := mG (i := 853) (by decide +kernel) rfl
theorem sL_turnsOf : Cond.static yL_turnsOf ∈ GW := mG (i := 860) (by decide +kernel) rfl
theorem sL_pieceAt : Cond.static yL_pieceAt ∈ GW := mG (i := 867) (by decide +kernel) rfl
theorem sL_pieceByPieces : Cond.static yL_pieceByPieces ∈ GW := mG (i := 881) (by decide +kernel) rfl
theorem sL_phase : Cond.static yL_phase ∈ GW := mG (i := 901) (by decide +kernel) rfl
theorem sL_addStyle : Cond.static yL_addStyle ∈ GW := mG (i := 914) (by decide +kernel) rfl
theorem sL_addPart : Cond.static yL_addPart ∈ GW := mG (i := 935) (by decide +kernel) rfl
theorem sL_piecesFor : Cond.static yL_piecesFor ∈ GW := mG (i := 954) (by decide +kernel) rfl
theorem sL_nestedLength : Cond.static yL_nestedLength ∈ GW := mG (i := 961) (by decide +kernel) rfl
theorem sL_nestedByTrying : Cond.static yL_nestedByTrying ∈ GW := mG (i := 1003) (by decide +kernel) rfl
theorem sL_addCloth : Cond.static yL_addCloth ∈ GW := mG (i := 1018) (by decide +kernel) rfl
theorem sL_spread : Cond.static yL_spread ∈ GW := mG (i := 1027) (by decide +kernel) rfl
theorem sL_pieces : Cond.static yL_pieces ∈ GW := mG (i := 1054) (by decide +kernel) rfl
theorem sL_canMake : Cond.static yL_canMake ∈ GW := mG (i := 1062) (by decide +kernel) rfl
theorem sL_canMakeByTaking : Cond.static yL_canMakeByTaking ∈ GW := mG (i := 1087) (by decide +kernel) rfl
theorem sL_make : Cond.static yL_make ∈ GW := mG (i := 1106) (by decide +kernel) rfl
theorem sL_made : Cond.static yL_made ∈ GW := mG (i := 1122) (by decide +kernel) rfl
theorem sL_pliesFor : Cond.static yL_pliesFor ∈ GW := mG (i := 1129) (by decide +kernel) rfl
theorem sL_density : Cond.static yL_density ∈ GW := mG (i := 1145) (by decide +kernel) rfl
theorem sL_meanCells : Cond.static yL_meanCells ∈ GW := mG (i := 1169) (by decide +kernel) rfl
theorem lk_X1_22 : Cond.methodLink RX1 22 yJ7_fill_53178 ∈ GW := mG (i := 174) (by decide +kernel) rfl
theorem lk_L_151 : Cond.methodLink RL 151 yX6_clearFlaws ∈ GW := mG (i := 243) (by decide +kernel) rfl
theorem lk_X6_118 : Cond.methodLink RX6 118 yX0_forgetFlaws ∈ GW := mG (i := 247) (by decide +kernel) rfl
theorem lk_X0_53 : Cond.methodLink RX0 53 yJ7_fill_53178 ∈ GW := mG (i := 251) (by decide +kernel) rfl
theorem lk_X0_35 : Cond.methodLink RX0 35 yX0_spoilRows ∈ GW := mG (i := 252) (by decide +kernel) rfl
theorem lk_X0_59 : Cond.methodLink RX0 59 yX0_reversed ∈ GW := mG (i := 259) (by decide +kernel) rfl
theorem lk_X0_63 : Cond.methodLink RX0 63 yX0_opposite ∈ GW := mG (i := 266) (by decide +kernel) rfl
theorem lk_L_185 : Cond.methodLink RL 185 yX6_clear ∈ GW := mG (i := 273) (by decide +kernel) rfl
theorem lk_X6_223 : Cond.methodLink RX6 223 yX1_empty ∈ GW := mG (i := 277) (by decide +kernel) rfl
theorem lk_L_189 : Cond.methodLink RL 189 yX6_inMarker ∈ GW := mG (i := 281) (by decide +kernel) rfl
theorem lk_L_208 : Cond.methodLink RL 208 yX6_length ∈ GW := mG (i := 285) (by decide +kernel) rfl
theorem lk_X6_219 : Cond.methodLink RX6 219 yX1_rowsUsed ∈ GW := mG (i := 289) (by decide +kernel) rfl
theorem lk_L_212 : Cond.methodLink RL 212 yX6_used ∈ GW := mG (i := 294) (by decide +kernel) rfl
theorem lk_X6_253 : Cond.methodLink RX6 253 yX1_cellsUsed ∈ GW := mG (i := 298) (by decide +kernel) rfl
theorem lk_X1_44 : Cond.methodLink RX1 44 yX1_pieceIn ∈ GW := mG (i := 302) (by decide +kernel) rfl
theorem lk_L_238 : Cond.methodLink RL 238 yX6_roll ∈ GW := mG (i := 306) (by decide +kernel) rfl
theorem lk_L_263 : Cond.methodLink RL 263 yX6_cut ∈ GW := mG (i := 310) (by decide +kernel) rfl
theorem lk_X6_169 : Cond.methodLink RX6 169 yX6_shapeNumbered ∈ GW := mG (i := 314) (by decide +kernel) rfl
theorem lk_L_275 : Cond.methodLink RL 275 yX6_isSound ∈ GW := mG (i := 318) (by decide +kernel) rfl
theorem lk_X6_442 : Cond.methodLink RX6 442 yX1_hasNoOverlap ∈ GW := mG (i := 322) (by decide +kernel) rfl
theorem lk_X1_187 : Cond.methodLink RX1 187 yX1_meetsAnew ∈ GW := mG (i := 326) (by decide +kernel) rfl
theorem lk_X6_445 : Cond.methodLink RX6 445 yX6_inGarments ∈ GW := mG (i := 331) (by decide +kernel) rfl
theorem lk_X6_308 : Cond.methodLink RX6 308 yX6_piecesOfPart ∈ GW := mG (i := 335) (by decide +kernel) rfl
theorem lk_X6_264 : Cond.methodLink RX6 264 yX6_entry ∈ GW := mG (i := 339) (by decide +kernel) rfl
theorem lk_L_134 : Cond.methodLink RL 134 yL_setCloth ∈ GW := mG (i := 340) (by decide +kernel) rfl
theorem lk_L_7 : Cond.methodLink RL 7 yX6_setCloth ∈ GW := mG (i := 345) (by decide +kernel) rfl
theorem lk_X6_48 : Cond.methodLink RX6 48 yX6_isWithin ∈ GW := mG (i := 349) (by decide +kernel) rfl
theorem lk_L_143 : Cond.methodLink RL 143 yL_fold ∈ GW := mG (i := 440) (by decide +kernel) rfl
theorem lk_L_17 : Cond.methodLink RL 17 yX6_fold ∈ GW := mG (i := 443) (by decide +kernel) rfl
theorem lk_X6_86 : Cond.methodLink RX6 86 yX0_foldOrOpen ∈ GW := mG (i := 448) (by decide +kernel) rfl
theorem lk_L_147 : Cond.methodLink RL 147 yL_addFlaw ∈ GW := mG (i := 452) (by decide +kernel) rfl
theorem lk_L_21 : Cond.methodLink RL 21 yX6_addFlaw ∈ GW := mG (i := 456) (by decide +kernel) rfl
theorem lk_X6_92 : Cond.methodLink RX6 92 yX6_isUnderPiece ∈ GW := mG (i := 461) (by decide +kernel) rfl
theorem lk_X6_110 : Cond.methodLink RX6 110 yX1_ownerOf ∈ GW := mG (i := 465) (by decide +kernel) rfl
theorem lk_X6_114 : Cond.methodLink RX6 114 yX0_opposite ∈ GW := mG (i := 469) (by decide +kernel) rfl
theorem lk_X6_101 : Cond.methodLink RX6 101 yX0_isTold ∈ GW := mG (i := 486) (by decide +kernel) rfl
theorem lk_X6_106 : Cond.methodLink RX6 106 yX0_tell ∈ GW := mG (i := 491) (by decide +kernel) rfl
theorem lk_L_155 : Cond.methodLink RL 155 yL_addShape ∈ GW := mG (i := 495) (by decide +kernel) rfl
theorem lk_L_27 : Cond.methodLink RL 27 yX6_addShape ∈ GW := mG (i := 498) (by decide +kernel) rfl
theorem lk_L_159 : Cond.methodLink RL 159 yL_addCell ∈ GW := mG (i := 582) (by decide +kernel) rfl
theorem lk_L_31 : Cond.methodLink RL 31 yX6_addCell ∈ GW := mG (i := 609) (by decide +kernel) rfl
theorem lk_X6_131 : Cond.methodLink RX6 131 yX6_shapeOrThrow ∈ GW := mG (i := 613) (by decide +kernel) rfl
theorem lk_X6_137 : Cond.methodLink RX6 137 yX4_hasCell ∈ GW := mG (i := 631) (by decide +kernel) rfl
theorem lk_X6_142 : Cond.methodLink RX6 142 yX1_holds ∈ GW := mG (i := 638) (by decide +kernel) rfl
theorem lk_X1_183 : Cond.methodLink RX1 183 yX1_countOf ∈ GW := mG (i := 642) (by decide +kernel) rfl
theorem lk_X6_152 : Cond.methodLink RX6 152 yX4_draw ∈ GW := mG (i := 647) (by decide +kernel) rfl
theorem lk_X4_51 : Cond.methodLink RX4 51 yX4_traceAll ∈ GW := mG (i := 652) (by decide +kernel) rfl
theorem lk_X4_60 : Cond.methodLink RX4 60 yX2_trace ∈ GW := mG (i := 656) (by decide +kernel) rfl
theorem lk_X2_23 : Cond.methodLink RX2 23 yJ7_fill_53178 ∈ GW := mG (i := 660) (by decide +kernel) rfl
theorem lk_X2_37 : Cond.methodLink RX2 37 yX2_turnedRow ∈ GW := mG (i := 663) (by decide +kernel) rfl
theorem lk_X2_41 : Cond.methodLink RX2 41 yX2_turnedColumn ∈ GW := mG (i := 667) (by decide +kernel) rfl
theorem lk_X6_449 : Cond.methodLink RX6 449 yX6_hasBit ∈ GW := mG (i := 675) (by decide +kernel) rfl
theorem lk_L_163 : Cond.methodLink RL 163 yL_setMark ∈ GW := mG (i := 679) (by decide +kernel) rfl
theorem lk_L_37 : Cond.methodLink RL 37 yX6_setMark ∈ GW := mG (i := 682) (by decide +kernel) rfl
theorem lk_X6_165 : Cond.methodLink RX6 165 yX4_mark ∈ GW := mG (i := 688) (by decide +kernel) rfl
theorem lk_L_167 : Cond.methodLink RL 167 yL_cellsOf ∈ GW := mG (i := 692) (by decide +kernel) rfl
theorem lk_L_41 : Cond.methodLink RL 41 yX6_cellsOf ∈ GW := mG (i := 695) (by decide +kernel) rfl
theorem lk_L_171 : Cond.methodLink RL 171 yL_lay ∈ GW := mG (i := 699) (by decide +kernel) rfl
theorem lk_L_45 : Cond.methodLink RL 45 yX6_lay ∈ GW := mG (i := 702) (by decide +kernel) rfl
theorem lk_X6_177 : Cond.methodLink RX6 177 yX6_checkTurns ∈ GW := mG (i := 706) (by decide +kernel) rfl
theorem lk_X6_181 : Cond.methodLink RX6 181 yX1_obstacle ∈ GW := mG (i := 710) (by decide +kernel) rfl
theorem lk_X1_55 : Cond.methodLink RX1 55 yX4_outlineFor ∈ GW := mG (i := 714) (by decide +kernel) rfl
theorem lk_X1_70 : Cond.methodLink RX1 70 yX4_canTurn ∈ GW := mG (i := 718) (by decide +kernel) rfl
theorem lk_X1_77 : Cond.methodLink RX1 77 yX4_canMirror ∈ GW := mG (i := 722) (by decide +kernel) rfl
theorem lk_X1_81 : Cond.methodLink RX1 81 yX0_reaches ∈ GW := mG (i := 726) (by decide +kernel) rfl
theorem lk_X0_75 : Cond.methodLink RX0 75 yX0_openColumns ∈ GW := mG (i := 731) (by decide +kernel) rfl
theorem lk_X1_88 : Cond.methodLink RX1 88 yX1_meetsAny ∈ GW := mG (i := 735) (by decide +kernel) rfl
theorem lk_X1_100 : Cond.methodLink RX1 100 yX0_remainder ∈ GW := mG (i := 738) (by decide +kernel) rfl
theorem lk_X0_29 : Cond.methodLink RX0 29 yJ9_floorMod_7cf53 ∈ GW := mG (i := 742) (by decide +kernel) rfl
theorem lk_X1_103 : Cond.methodLink RX1 103 yX1_stripesMeet ∈ GW := mG (i := 745) (by decide +kernel) rfl
theorem lk_X6_187 : Cond.methodLink RX6 187 yX1_isFull ∈ GW := mG (i := 750) (by decide +kernel) rfl
theorem lk_X6_193 : Cond.methodLink RX6 193 yX1_put ∈ GW := mG (i := 755) (by decide +kernel) rfl
theorem lk_X1_152 : Cond.methodLink RX1 152 yX1_cover ∈ GW := mG (i := 759) (by decide +kernel) rfl
theorem lk_X1_156 : Cond.methodLink RX1 156 yX1_join ∈ GW := mG (i := 764) (by decide +kernel) rfl
theorem lk_L_175 : Cond.methodLink RL 175 yL_reason ∈ GW := mG (i := 768) (by decide +kernel) rfl
theorem lk_L_49 : Cond.methodLink RL 49 yX6_reason ∈ GW := mG (i := 771) (by decide +kernel) rfl
theorem lk_L_178 : Cond.methodLink RL 178 yL_nest ∈ GW := mG (i := 775) (by decide +kernel) rfl
theorem lk_L_53 : Cond.methodLink RL 53 yX6_nest ∈ GW := mG (i := 779) (by decide +kernel) rfl
theorem lk_X6_199 : Cond.methodLink RX6 199 yX1_firstSpot ∈ GW := mG (i := 783) (by decide +kernel) rfl
theorem lk_X1_117 : Cond.methodLink RX1 117 yX0_openColumns ∈ GW := mG (i := 787) (by decide +kernel) rfl
theorem lk_X1_121 : Cond.methodLink RX1 121 yX1_obstacle ∈ GW := mG (i := 788) (by decide +kernel) rfl
theorem lk_X6_208 : Cond.methodLink RX6 208 yX1_putAtSpot ∈ GW := mG (i := 805) (by decide +kernel) rfl
theorem lk_X1_125 : Cond.methodLink RX1 125 yX1_put ∈ GW := mG (i := 809) (by decide +kernel) rfl
theorem lk_L_182 : Cond.methodLink RL 182 yL_takeOff ∈ GW := mG (i := 810) (by decide +kernel) rfl
theorem lk_L_59 : Cond.methodLink RL 59 yX6_takeOff ∈ GW := mG (i := 813) (by decide +kernel) rfl
theorem lk_X6_212 : Cond.methodLink RX6 212 yX6_pieceOrThrow ∈ GW := mG (i := 817) (by decide +kernel) rfl
theorem lk_X6_237 : Cond.methodLink RX6 237 yX1_pieceNumbered ∈ GW := mG (i := 821) (by decide +kernel) rfl
theorem lk_X1_51 : Cond.methodLink RX1 51 yX1_slotOf ∈ GW := mG (i := 825) (by decide +kernel) rfl
theorem lk_X6_216 : Cond.methodLink RX6 216 yX1_remove ∈ GW := mG (i := 830) (by decide +kernel) rfl
theorem lk_X1_167 : Cond.methodLink RX1 167 yX1_leave ∈ GW := mG (i := 834) (by decide +kernel) rfl
theorem lk_X1_171 : Cond.methodLink RX1 171 yX1_moveToEnd ∈ GW := mG (i := 838) (by decide +kernel) rfl
theorem lk_X1_174 : Cond.methodLink RX1 174 yJ9_max_7cf53 ∈ GW := mG (i := 842) (by decide +kernel) rfl
theorem lk_L_193 : Cond.methodLink RL 193 yL_rowOf ∈ GW := mG (i := 845) (by decide +kernel) rfl
theorem lk_L_62 : Cond.methodLink RL 62 yX6_rowOf ∈ GW := mG (i := 848) (by decide +kernel) rfl
theorem lk_L_196 : Cond.methodLink RL 196 yL_columnOf ∈ GW := mG (i := 852) (by decide +kernel) rfl
theorem lk_L_65 : Cond.methodLink RL 65 yX6_columnOf ∈ GW := mG (i := 855) (by decide +kernel) rfl
theorem lk_L_199 : Cond.methodLink RL 199 yL_turnsOf ∈ GW := mG (i := 859) (by decide +kernel) rfl
theorem lk_L_68 : Cond.methodLink RL 68 yX6_turnsOf ∈ GW := mG (i := 862) (by decide +kernel) rfl
theorem lk_L_202 : Cond.methodLink RL 202 yL_pieceAt ∈ GW := mG (i := 866) (by decide +kernel) rfl
theorem lk_L_71 : Cond.methodLink RL 71 yX6_pieceAt ∈ GW := mG (i := 869) (by decide +kernel) rfl
theorem lk_X6_242 : Cond.methodLink RX6 242 yX6_checkCell ∈ GW := mG (i := 873) (by decide +kernel) rfl
theorem lk_X6_245 : Cond.methodLink RX6 245 yX6_numberOrThrow ∈ GW := mG (i := 876) (by decide +kernel) rfl
theorem lk_L_205 : Cond.methodLink RL 205 yL_pieceByPieces ∈ GW := mG (i := 880) (by decide +kernel) rfl
theorem lk_L_74 : Cond.methodLink RL 74 yX6_pieceByPieces ∈ GW := mG (i := 883) (by decide +kernel) rfl
theorem lk_X6_248 : Cond.methodLink RX6 248 yX1_ownerByPieces ∈ GW := mG (i := 887) (by decide +kernel) rfl
theorem lk_X1_180 : Cond.methodLink RX1 180 yX3_covers ∈ GW := mG (i := 891) (by decide +kernel) rfl
theorem lk_X3_20 : Cond.methodLink RX3 20 yX2_hasCell ∈ GW := mG (i := 895) (by decide +kernel) rfl
theorem lk_L_216 : Cond.methodLink RL 216 yL_phase ∈ GW := mG (i := 900) (by decide +kernel) rfl
theorem lk_L_77 : Cond.methodLink RL 77 yX6_phase ∈ GW := mG (i := 903) (by decide +kernel) rfl
theorem lk_X6_258 : Cond.methodLink RX6 258 yX0_isStriped ∈ GW := mG (i := 908) (by decide +kernel) rfl
theorem lk_L_219 : Cond.methodLink RL 219 yL_addStyle ∈ GW := mG (i := 913) (by decide +kernel) rfl
theorem lk_L_80 : Cond.methodLink RL 80 yX6_addStyle ∈ GW := mG (i := 916) (by decide +kernel) rfl
theorem lk_L_223 : Cond.methodLink RL 223 yL_addPart ∈ GW := mG (i := 934) (by decide +kernel) rfl
theorem lk_L_84 : Cond.methodLink RL 84 yX6_addPart ∈ GW := mG (i := 937) (by decide +kernel) rfl
theorem lk_X6_279 : Cond.methodLink RX6 279 yX6_styleOrThrow ∈ GW := mG (i := 941) (by decide +kernel) rfl
theorem lk_X6_293 : Cond.methodLink RX6 293 yX6_store ∈ GW := mG (i := 948) (by decide +kernel) rfl
theorem lk_X6_297 : Cond.methodLink RX6 297 yX6_piecesOfGarment ∈ GW := mG (i := 949) (by decide +kernel) rfl
theorem lk_L_226 : Cond.methodLink RL 226 yL_piecesFor ∈ GW := mG (i := 953) (by decide +kernel) rfl
theorem lk_L_87 : Cond.methodLink RL 87 yX6_piecesFor ∈ GW := mG (i := 956) (by decide +kernel) rfl
theorem lk_L_229 : Cond.methodLink RL 229 yL_nestedLength ∈ GW := mG (i := 960) (by decide +kernel) rfl
theorem lk_L_90 : Cond.methodLink RL 90 yX6_nestedLength ∈ GW := mG (i := 963) (by decide +kernel) rfl
theorem lk_X6_315 : Cond.methodLink RX6 315 yX6_wantPieces ∈ GW := mG (i := 967) (by decide +kernel) rfl
theorem lk_X6_334 : Cond.methodLink RX6 334 yX6_plainToNest ∈ GW := mG (i := 971) (by decide +kernel) rfl
theorem lk_X6_337 : Cond.methodLink RX6 337 yX6_mirroredToNest ∈ GW := mG (i := 975) (by decide +kernel) rfl
theorem lk_X6_340 : Cond.methodLink RX6 340 yX6_kindOf ∈ GW := mG (i := 979) (by decide +kernel) rfl
theorem lk_X6_318 : Cond.methodLink RX6 318 yX6_shortest ∈ GW := mG (i := 983) (by decide +kernel) rfl
theorem lk_X6_327 : Cond.methodLink RX6 327 yJ9_min_7cf53 ∈ GW := mG (i := 987) (by decide +kernel) rfl
theorem lk_X6_346 : Cond.methodLink RX6 346 yX6_shortestWith ∈ GW := mG (i := 990) (by decide +kernel) rfl
theorem lk_X6_350 : Cond.methodLink RX6 350 yX6_nestInTrial ∈ GW := mG (i := 994) (by decide +kernel) rfl
theorem lk_X6_321 : Cond.methodLink RX6 321 yX6_lengthOrThrow ∈ GW := mG (i := 998) (by decide +kernel) rfl
theorem lk_L_232 : Cond.methodLink RL 232 yL_nestedByTrying ∈ GW := mG (i := 1002) (by decide +kernel) rfl
theorem lk_L_93 : Cond.methodLink RL 93 yX6_nestedByTrying ∈ GW := mG (i := 1005) (by decide +kernel) rfl
theorem lk_X6_324 : Cond.methodLink RX6 324 yX6_lengthInOrder ∈ GW := mG (i := 1009) (by decide +kernel) rfl
theorem lk_X6_353 : Cond.methodLink RX6 353 yX6_fillQueue ∈ GW := mG (i := 1013) (by decide +kernel) rfl
theorem lk_L_235 : Cond.methodLink RL 235 yL_addCloth ∈ GW := mG (i := 1017) (by decide +kernel) rfl
theorem lk_L_96 : Cond.methodLink RL 96 yX6_addCloth ∈ GW := mG (i := 1020) (by decide +kernel) rfl
theorem lk_L_242 : Cond.methodLink RL 242 yL_spread ∈ GW := mG (i := 1026) (by decide +kernel) rfl
theorem lk_L_99 : Cond.methodLink RL 99 yX6_spread ∈ GW := mG (i := 1029) (by decide +kernel) rfl
theorem lk_X6_366 : Cond.methodLink RX6 366 yX6_stockHolds ∈ GW := mG (i := 1035) (by decide +kernel) rfl
theorem lk_X6_379 : Cond.methodLink RX6 379 yX6_perPly ∈ GW := mG (i := 1039) (by decide +kernel) rfl
theorem lk_X6_389 : Cond.methodLink RX6 389 yX1_countOf ∈ GW := mG (i := 1043) (by decide +kernel) rfl
theorem lk_X6_372 : Cond.methodLink RX6 372 yX6_cutPlies ∈ GW := mG (i := 1045) (by decide +kernel) rfl
theorem lk_X6_386 : Cond.methodLink RX6 386 yX4_receive ∈ GW := mG (i := 1049) (by decide +kernel) rfl
theorem lk_L_245 : Cond.methodLink RL 245 yL_pieces ∈ GW := mG (i := 1053) (by decide +kernel) rfl
theorem lk_L_102 : Cond.methodLink RL 102 yX6_pieces ∈ GW := mG (i := 1056) (by decide +kernel) rfl
theorem lk_L_248 : Cond.methodLink RL 248 yL_canMake ∈ GW := mG (i := 1061) (by decide +kernel) rfl
theorem lk_L_105 : Cond.methodLink RL 105 yX6_canMake ∈ GW := mG (i := 1064) (by decide +kernel) rfl
theorem lk_X6_394 : Cond.methodLink RX6 394 yX6_styleWithPartsOrThrow ∈ GW := mG (i := 1068) (by decide +kernel) rfl
theorem lk_X6_303 : Cond.methodLink RX6 303 yX5_hasParts ∈ GW := mG (i := 1072) (by decide +kernel) rfl
theorem lk_X6_397 : Cond.methodLink RX6 397 yX6_garmentsInStock ∈ GW := mG (i := 1077) (by decide +kernel) rfl
theorem lk_X6_400 : Cond.methodLink RX6 400 yX4_whole ∈ GW := mG (i := 1081) (by decide +kernel) rfl
theorem lk_X4_69 : Cond.methodLink RX4 69 yJ9_min_7cf53 ∈ GW := mG (i := 1085) (by decide +kernel) rfl
theorem lk_L_251 : Cond.methodLink RL 251 yL_canMakeByTaking ∈ GW := mG (i := 1086) (by decide +kernel) rfl
theorem lk_L_108 : Cond.methodLink RL 108 yX6_canMakeByTaking ∈ GW := mG (i := 1089) (by decide +kernel) rfl
theorem lk_X6_403 : Cond.methodLink RX6 403 yX6_takesGarment ∈ GW := mG (i := 1093) (by decide +kernel) rfl
theorem lk_X6_407 : Cond.methodLink RX6 407 yX6_takesPart ∈ GW := mG (i := 1097) (by decide +kernel) rfl
theorem lk_X6_411 : Cond.methodLink RX6 411 yX6_takesKind ∈ GW := mG (i := 1101) (by decide +kernel) rfl
theorem lk_L_254 : Cond.methodLink RL 254 yL_make ∈ GW := mG (i := 1105) (by decide +kernel) rfl
theorem lk_L_111 : Cond.methodLink RL 111 yX6_make ∈ GW := mG (i := 1108) (by decide +kernel) rfl
theorem lk_X6_414 : Cond.methodLink RX6 414 yX6_checkGarments ∈ GW := mG (i := 1112) (by decide +kernel) rfl
theorem lk_X6_419 : Cond.methodLink RX6 419 yX4_giveAway ∈ GW := mG (i := 1117) (by decide +kernel) rfl
theorem lk_L_257 : Cond.methodLink RL 257 yL_made ∈ GW := mG (i := 1121) (by decide +kernel) rfl
theorem lk_L_114 : Cond.methodLink RL 114 yX6_made ∈ GW := mG (i := 1124) (by decide +kernel) rfl
theorem lk_L_260 : Cond.methodLink RL 260 yL_pliesFor ∈ GW := mG (i := 1128) (by decide +kernel) rfl
theorem lk_L_117 : Cond.methodLink RL 117 yX6_pliesFor ∈ GW := mG (i := 1131) (by decide +kernel) rfl
theorem lk_X6_424 : Cond.methodLink RX6 424 yX6_pliesForPart ∈ GW := mG (i := 1135) (by decide +kernel) rfl
theorem lk_X6_433 : Cond.methodLink RX6 433 yX6_pliesForSort ∈ GW := mG (i := 1139) (by decide +kernel) rfl
theorem lk_X6_430 : Cond.methodLink RX6 430 yJ9_max_7cf53 ∈ GW := mG (i := 1142) (by decide +kernel) rfl
theorem lk_L_268 : Cond.methodLink RL 268 yL_density ∈ GW := mG (i := 1144) (by decide +kernel) rfl
theorem lk_L_120 : Cond.methodLink RL 120 yX6_density ∈ GW := mG (i := 1161) (by decide +kernel) rfl
theorem lk_X6_436 : Cond.methodLink RX6 436 yX0_openColumns ∈ GW := mG (i := 1165) (by decide +kernel) rfl
theorem lk_L_272 : Cond.methodLink RL 272 yL_meanCells ∈ GW := mG (i := 1168) (by decide +kernel) rfl
theorem lk_L_126 : Cond.methodLink RL 126 yX6_meanCells ∈ GW := mG (i := 1171) (by decide +kernel) rfl
theorem lk_X7_106 : Cond.methodLink RX7 106 yX7_empties ∈ GW := mG (i := 1181) (by decide +kernel) rfl
theorem lk_L_140 : Cond.methodLink RL 140 yX7_thrown ∈ GW := mG (i := 1335) (by decide +kernel) rfl
theorem lk_L_139 : Cond.methodLink RL 139 yX7_setCloth ∈ GW := mG (i := 1339) (by decide +kernel) rfl
theorem lk_X7_122 : Cond.methodLink RX7 122 yX7_in ∈ GW := mG (i := 1343) (by decide +kernel) rfl
theorem lk_X7_129 : Cond.methodLink RX7 129 yX7_fails ∈ GW := mG (i := 1346) (by decide +kernel) rfl
theorem lk_L_146 : Cond.methodLink RL 146 yX7_fold ∈ GW := mG (i := 1350) (by decide +kernel) rfl
theorem lk_L_150 : Cond.methodLink RL 150 yX7_addFlaw ∈ GW := mG (i := 1354) (by decide +kernel) rfl
theorem lk_X7_139 : Cond.methodLink RX7 139 yX7_isUnderPiece ∈ GW := mG (i := 1358) (by decide +kernel) rfl
theorem lk_L_154 : Cond.methodLink RL 154 yX7_clearFlaws ∈ GW := mG (i := 1362) (by decide +kernel) rfl
theorem lk_L_158 : Cond.methodLink RL 158 yX7_addShape ∈ GW := mG (i := 1366) (by decide +kernel) rfl
theorem lk_L_162 : Cond.methodLink RL 162 yX7_addCell ∈ GW := mG (i := 1370) (by decide +kernel) rfl
theorem lk_X7_146 : Cond.methodLink RX7 146 yX7_isShape ∈ GW := mG (i := 1374) (by decide +kernel) rfl
theorem lk_X7_149 : Cond.methodLink RX7 149 yX7_isLaid ∈ GW := mG (i := 1378) (by decide +kernel) rfl
theorem lk_L_166 : Cond.methodLink RL 166 yX7_setMark ∈ GW := mG (i := 1382) (by decide +kernel) rfl
theorem lk_L_170 : Cond.methodLink RL 170 yX7_cellsOf ∈ GW := mG (i := 1386) (by decide +kernel) rfl
theorem lk_L_174 : Cond.methodLink RL 174 yX7_lay ∈ GW := mG (i := 1390) (by decide +kernel) rfl
theorem lk_X7_190 : Cond.methodLink RX7 190 yX7_reasonFor ∈ GW := mG (i := 1394) (by decide +kernel) rfl
theorem lk_X7_172 : Cond.methodLink RX7 172 yX7_mayTurn ∈ GW := mG (i := 1398) (by decide +kernel) rfl
theorem lk_X7_175 : Cond.methodLink RX7 175 yX7_turns ∈ GW := mG (i := 1402) (by decide +kernel) rfl
theorem lk_X7_155 : Cond.methodLink RX7 155 yX7_turnedRow ∈ GW := mG (i := 1406) (by decide +kernel) rfl
theorem lk_X7_159 : Cond.methodLink RX7 159 yX7_turnedColumn ∈ GW := mG (i := 1409) (by decide +kernel) rfl
theorem lk_X7_179 : Cond.methodLink RX7 179 yX7_worst ∈ GW := mG (i := 1412) (by decide +kernel) rfl
theorem lk_X7_165 : Cond.methodLink RX7 165 yX7_columns ∈ GW := mG (i := 1416) (by decide +kernel) rfl
theorem lk_X7_169 : Cond.methodLink RX7 169 yX7_isBad ∈ GW := mG (i := 1420) (by decide +kernel) rfl
theorem lk_X7_183 : Cond.methodLink RX7 183 yX7_isMarked ∈ GW := mG (i := 1424) (by decide +kernel) rfl
theorem lk_X7_186 : Cond.methodLink RX7 186 yX7_remainder ∈ GW := mG (i := 1428) (by decide +kernel) rfl
theorem lk_X7_194 : Cond.methodLink RX7 194 yX7_puts ∈ GW := mG (i := 1432) (by decide +kernel) rfl
theorem lk_L_177 : Cond.methodLink RL 177 yX7_reason ∈ GW := mG (i := 1436) (by decide +kernel) rfl
theorem lk_L_181 : Cond.methodLink RL 181 yX7_nest ∈ GW := mG (i := 1440) (by decide +kernel) rfl
theorem lk_X7_207 : Cond.methodLink RX7 207 yX7_isNested ∈ GW := mG (i := 1444) (by decide +kernel) rfl
theorem lk_L_184 : Cond.methodLink RL 184 yX7_takeOff ∈ GW := mG (i := 1448) (by decide +kernel) rfl
theorem lk_X7_211 : Cond.methodLink RX7 211 yX7_placeOf ∈ GW := mG (i := 1452) (by decide +kernel) rfl
theorem lk_X7_214 : Cond.methodLink RX7 214 yX7_takes ∈ GW := mG (i := 1456) (by decide +kernel) rfl
theorem lk_X7_218 : Cond.methodLink RX7 218 yX7_longest ∈ GW := mG (i := 1460) (by decide +kernel) rfl
theorem lk_L_188 : Cond.methodLink RL 188 yX7_clear ∈ GW := mG (i := 1464) (by decide +kernel) rfl
theorem lk_L_192 : Cond.methodLink RL 192 yX7_inMarker ∈ GW := mG (i := 1468) (by decide +kernel) rfl
theorem lk_L_195 : Cond.methodLink RL 195 yX7_rowOf ∈ GW := mG (i := 1472) (by decide +kernel) rfl
theorem lk_L_198 : Cond.methodLink RL 198 yX7_columnOf ∈ GW := mG (i := 1476) (by decide +kernel) rfl
theorem lk_L_201 : Cond.methodLink RL 201 yX7_turnsOf ∈ GW := mG (i := 1480) (by decide +kernel) rfl
theorem lk_L_204 : Cond.methodLink RL 204 yX7_pieceAt ∈ GW := mG (i := 1484) (by decide +kernel) rfl
theorem lk_L_207 : Cond.methodLink RL 207 yX7_pieceByPieces ∈ GW := mG (i := 1488) (by decide +kernel) rfl
theorem lk_X7_221 : Cond.methodLink RX7 221 yX7_pieceAt ∈ GW := mG (i := 1492) (by decide +kernel) rfl
theorem lk_L_211 : Cond.methodLink RL 211 yX7_length ∈ GW := mG (i := 1493) (by decide +kernel) rfl
theorem lk_L_215 : Cond.methodLink RL 215 yX7_used ∈ GW := mG (i := 1497) (by decide +kernel) rfl
theorem lk_X7_224 : Cond.methodLink RX7 224 yX7_cellsUsed ∈ GW := mG (i := 1501) (by decide +kernel) rfl
theorem lk_L_218 : Cond.methodLink RL 218 yX7_phase ∈ GW := mG (i := 1505) (by decide +kernel) rfl
theorem lk_L_222 : Cond.methodLink RL 222 yX7_addStyle ∈ GW := mG (i := 1509) (by decide +kernel) rfl
theorem lk_L_225 : Cond.methodLink RL 225 yX7_addPart ∈ GW := mG (i := 1513) (by decide +kernel) rfl
theorem lk_X7_230 : Cond.methodLink RX7 230 yX7_isStyle ∈ GW := mG (i := 1517) (by decide +kernel) rfl
theorem lk_X7_233 : Cond.methodLink RX7 233 yX7_takenBy ∈ GW := mG (i := 1521) (by decide +kernel) rfl
theorem lk_L_228 : Cond.methodLink RL 228 yX7_piecesFor ∈ GW := mG (i := 1525) (by decide +kernel) rfl
theorem lk_L_231 : Cond.methodLink RL 231 yX7_nestedLength ∈ GW := mG (i := 1529) (by decide +kernel) rfl
theorem lk_X7_245 : Cond.methodLink RX7 245 yX7_queues ∈ GW := mG (i := 1533) (by decide +kernel) rfl
theorem lk_X7_248 : Cond.methodLink RX7 248 yX7_leastLength ∈ GW := mG (i := 1537) (by decide +kernel) rfl
theorem lk_X7_242 : Cond.methodLink RX7 242 yX7_tries ∈ GW := mG (i := 1541) (by decide +kernel) rfl
theorem lk_L_234 : Cond.methodLink RL 234 yX7_nestedByTrying ∈ GW := mG (i := 1545) (by decide +kernel) rfl
theorem lk_X7_251 : Cond.methodLink RX7 251 yX7_nestedLength ∈ GW := mG (i := 1549) (by decide +kernel) rfl
theorem lk_L_237 : Cond.methodLink RL 237 yX7_addCloth ∈ GW := mG (i := 1550) (by decide +kernel) rfl
theorem lk_L_241 : Cond.methodLink RL 241 yX7_roll ∈ GW := mG (i := 1555) (by decide +kernel) rfl
theorem lk_L_244 : Cond.methodLink RL 244 yX7_spread ∈ GW := mG (i := 1559) (by decide +kernel) rfl
theorem lk_X7_262 : Cond.methodLink RX7 262 yX7_takenFromRoll ∈ GW := mG (i := 1563) (by decide +kernel) rfl
theorem lk_X7_265 : Cond.methodLink RX7 265 yX7_isMuch ∈ GW := mG (i := 1567) (by decide +kernel) rfl
theorem lk_X7_258 : Cond.methodLink RX7 258 yX7_givenBy ∈ GW := mG (i := 1571) (by decide +kernel) rfl
theorem lk_L_247 : Cond.methodLink RL 247 yX7_pieces ∈ GW := mG (i := 1575) (by decide +kernel) rfl
theorem lk_L_250 : Cond.methodLink RL 250 yX7_canMake ∈ GW := mG (i := 1579) (by decide +kernel) rfl
theorem lk_X7_275 : Cond.methodLink RX7 275 yX7_makes ∈ GW := mG (i := 1583) (by decide +kernel) rfl
theorem lk_L_253 : Cond.methodLink RL 253 yX7_canMakeByTaking ∈ GW := mG (i := 1588) (by decide +kernel) rfl
theorem lk_X7_278 : Cond.methodLink RX7 278 yX7_canMake ∈ GW := mG (i := 1592) (by decide +kernel) rfl
theorem lk_L_256 : Cond.methodLink RL 256 yX7_make ∈ GW := mG (i := 1593) (by decide +kernel) rfl
theorem lk_L_259 : Cond.methodLink RL 259 yX7_made ∈ GW := mG (i := 1597) (by decide +kernel) rfl
theorem lk_L_262 : Cond.methodLink RL 262 yX7_pliesFor ∈ GW := mG (i := 1601) (by decide +kernel) rfl
theorem lk_L_267 : Cond.methodLink RL 267 yX7_cut ∈ GW := mG (i := 1605) (by decide +kernel) rfl
theorem lk_L_271 : Cond.methodLink RL 271 yX7_density ∈ GW := mG (i := 1609) (by decide +kernel) rfl
theorem lk_L_274 : Cond.methodLink RL 274 yX7_meanCells ∈ GW := mG (i := 1613) (by decide +kernel) rfl
theorem lk_L_279 : Cond.methodLink RL 279 yX7_isSound ∈ GW := mG (i := 1617) (by decide +kernel) rfl
theorem lk_X0_38 : (RX0, 38, yX6_entry, "CuttingRoom") ∈ nestL := List.mem_of_getElem? (i := 0) (by decide +kernel)
theorem lk_X0_42 : (RX0, 42, yX6_hasBit, "CuttingRoom") ∈ nestL := List.mem_of_getElem? (i := 1) (by decide +kernel)
theorem lk_X0_46 : (RX0, 46, yX6_store, "CuttingRoom") ∈ nestL := List.mem_of_getElem? (i := 2) (by decide +kernel)
theorem lk_X1_110 : (RX1, 110, yX6_entry, "CuttingRoom") ∈ nestL := List.mem_of_getElem? (i := 3) (by decide +kernel)
theorem lk_X1_160 : (RX1, 160, yX6_store, "CuttingRoom") ∈ nestL := List.mem_of_getElem? (i := 4) (by decide +kernel)
theorem lk_X4_36 : (RX4, 36, yX6_entry, "CuttingRoom") ∈ nestL := List.mem_of_getElem? (i := 5) (by decide +kernel)
theorem lk_X4_40 : (RX4, 40, yX6_hasBit, "CuttingRoom") ∈ nestL := List.mem_of_getElem? (i := 6) (by decide +kernel)
theorem lk_X4_44 : (RX4, 44, yX6_store, "CuttingRoom") ∈ nestL := List.mem_of_getElem? (i := 7) (by decide +kernel)
theorem lk_X2_29 : (RX2, 29, yX6_entry, "CuttingRoom") ∈ nestL := List.mem_of_getElem? (i := 8) (by decide +kernel)
theorem lk_X2_33 : (RX2, 33, yX6_hasBit, "CuttingRoom") ∈ nestL := List.mem_of_getElem? (i := 9) (by decide +kernel)
theorem lk_X2_44 : (RX2, 44, yX6_store, "CuttingRoom") ∈ nestL := List.mem_of_getElem? (i := 10) (by decide +kernel)
theorem lk_X2_48 : (RX2, 48, yX6_firstBit, "CuttingRoom") ∈ nestL := List.mem_of_getElem? (i := 11) (by decide +kernel)
theorem lk_X2_52 : (RX2, 52, yX6_endOfBits, "CuttingRoom") ∈ nestL := List.mem_of_getElem? (i := 12) (by decide +kernel)
theorem lk_X0_71 : (RX0, 71, yX6_isWithin, "CuttingRoom") ∈ nestL := List.mem_of_getElem? (i := 13) (by decide +kernel)
theorem lk_X1_164 : (RX1, 164, yX6_hasBit, "CuttingRoom") ∈ nestL := List.mem_of_getElem? (i := 14) (by decide +kernel)
theorem lk_X2_64 : (RX2, 64, yX6_isWithin, "CuttingRoom") ∈ nestL := List.mem_of_getElem? (i := 15) (by decide +kernel)
theorem kc_X6_359 : Cond.constant RX6 359 (Int32.ofInt 999999) ∈ GW := mG (i := 1024) (by decide +kernel) rfl
theorem kc_X7_257 : Cond.constant RX7 257 (Int32.ofInt 999999) ∈ GW := mG (i := 1554) (by decide +kernel) rfl
theorem kc_X7_274 : Cond.constant RX7 274 (Int32.ofInt 2147483647) ∈ GW := mG (i := 1587) (by decide +kernel) rfl
