theorem ka_X0_init : cd_X0_init.1.all (fun e => mm_okB mm_mth mm_nest (yX0_init, cX0_init, 1, none) e) = true := by decide +kernel
theorem kb_X0_init : GoodIn lw_tbl (cd_X0_init.1.flatMap (fun e => mm_wdE mm_mth yX0_init.cls e)) := goodIn_r _ [256, 146, 147, 164, 277, 164, 278] (by decide +kernel) (by decide +kernel)
theorem ka_X0_begin : cd_X0_begin.1.all (fun e => mm_okB mm_mth mm_nest (yX0_begin, cX0_begin, 3, none) e) = true := by decide +kernel
theorem kb_X0_begin : GoodIn lw_tbl (cd_X0_begin.1.flatMap (fun e => mm_wdE mm_mth yX0_begin.cls e)) := goodIn_r _ [677, 678, 679, 125, 682, 683, 684, 122, 267, 682, 683, 684, 122, 269, 271, 273, 275, 278, 278, 682, 683, 684, 122] (by decide +kernel) (by decide +kernel)
theorem ka_X0_beginMorning : cd_X0_beginMorning.1.all (fun e => mm_okB mm_mth mm_nest (yX0_beginMorning, cX0_beginMorning, 1, none) e) = true := by decide +kernel
theorem kb_X0_beginMorning : GoodIn lw_tbl (cd_X0_beginMorning.1.flatMap (fun e => mm_wdE mm_mth yX0_beginMorning.cls e)) := goodIn_r _ [257, 260, 262, 265, 277, 681, 479, 132] (by decide +kernel) (by decide +kernel)
theorem ka_X0_copyFrom : cd_X0_copyFrom.1.all (fun e => mm_okB mm_mth mm_nest (yX0_copyFrom, cX0_copyFrom, 2, none) e) = true := by decide +kernel
theorem kb_X0_copyFrom : GoodIn lw_tbl (cd_X0_copyFrom.1.flatMap (fun e => mm_wdE mm_mth yX0_copyFrom.cls e)) := goodIn_r _ [257, 257, 260, 260, 262, 262, 265, 265, 267, 267, 269, 269, 271, 271, 273, 273, 275, 275, 277, 277, 277, 773, 672, 671, 134, 278, 278, 278, 773, 672, 671, 134] (by decide +kernel) (by decide +kernel)
theorem ka_X0_tiredOf : cd_X0_tiredOf.1.all (fun e => mm_okB mm_mth mm_nest (yX0_tiredOf, cX0_tiredOf, 2, (some .int)) e) = true := by decide +kernel
theorem kb_X0_tiredOf : GoodIn lw_tbl (cd_X0_tiredOf.1.flatMap (fun e => mm_wdE mm_mth yX0_tiredOf.cls e)) := goodIn_r _ [277, 277] (by decide +kernel) (by decide +kernel)
theorem ka_X0_wristOf : cd_X0_wristOf.1.all (fun e => mm_okB mm_mth mm_nest (yX0_wristOf, cX0_wristOf, 2, (some .int)) e) = true := by decide +kernel
theorem kb_X0_wristOf : GoodIn lw_tbl (cd_X0_wristOf.1.flatMap (fun e => mm_wdE mm_mth yX0_wristOf.cls e)) := goodIn_r _ [278, 278] (by decide +kernel) (by decide +kernel)
theorem ka_X0_tire : cd_X0_tire.1.all (fun e => mm_okB mm_mth mm_nest (yX0_tire, cX0_tire, 3, none) e) = true := by decide +kernel
theorem kb_X0_tire : GoodIn lw_tbl (cd_X0_tire.1.flatMap (fun e => mm_wdE mm_mth yX0_tire.cls e)) := goodIn_r _ [277, 277] (by decide +kernel) (by decide +kernel)
theorem ka_X0_strengthen : cd_X0_strengthen.1.all (fun e => mm_okB mm_mth mm_nest (yX0_strengthen, cX0_strengthen, 2, none) e) = true := by decide +kernel
theorem kb_X0_strengthen : GoodIn lw_tbl (cd_X0_strengthen.1.flatMap (fun e => mm_wdE mm_mth yX0_strengthen.cls e)) := goodIn_r _ [278, 278] (by decide +kernel) (by decide +kernel)
theorem ka_X1_init : cd_X1_init.1.all (fun e => mm_okB mm_mth mm_nest (yX1_init, cX1_init, 1, none) e) = true := by decide +kernel
theorem kb_X1_init : GoodIn lw_tbl (cd_X1_init.1.flatMap (fun e => mm_wdE mm_mth yX1_init.cls e)) := goodIn_r _ [380, 146, 147] (by decide +kernel) (by decide +kernel)
theorem ka_X1_begin : cd_X1_begin.1.all (fun e => mm_okB mm_mth mm_nest (yX1_begin, cX1_begin, 3, none) e) = true := by decide +kernel
theorem kb_X1_begin : GoodIn lw_tbl (cd_X1_begin.1.flatMap (fun e => mm_wdE mm_mth yX1_begin.cls e)) := goodIn_r _ [381] (by decide +kernel) (by decide +kernel)
theorem ka_X1_below : cd_X1_below.1.all (fun e => mm_okB mm_mth mm_nest (yX1_below, cX1_below, 2, (some .int)) e) = true := by decide +kernel
theorem kb_X1_below : GoodIn lw_tbl (cd_X1_below.1.flatMap (fun e => mm_wdE mm_mth yX1_below.cls e)) := goodIn_r _ [381, 933, 934, 381, 381] (by decide +kernel) (by decide +kernel)
theorem ka_X2_init : cd_X2_init.1.all (fun e => mm_okB mm_mth mm_nest (yX2_init, cX2_init, 2, none) e) = true := by decide +kernel
theorem kb_X2_init : GoodIn lw_tbl (cd_X2_init.1.flatMap (fun e => mm_wdE mm_mth yX2_init.cls e)) := goodIn_r _ [170, 146, 147, 171, 172, 122, 174, 122, 185, 184] (by decide +kernel) (by decide +kernel)
theorem ka_X2_read : cd_X2_read.1.all (fun e => mm_okB mm_mth mm_nest (yX2_read, cX2_read, 1, (some (.object "WhiskedDuchy$Told"))) e) = true := by decide +kernel
theorem kb_X2_read : GoodIn lw_tbl (cd_X2_read.1.flatMap (fun e => mm_wdE mm_mth yX2_read.cls e)) := goodIn_r _ [185] (by decide +kernel) (by decide +kernel)
theorem ka_X2_firstFault : cd_X2_firstFault.1.all (fun e => mm_okB mm_mth mm_nest (yX2_firstFault, cX2_firstFault, 2, (some .int)) e) = true := by decide +kernel
theorem kb_X2_firstFault : GoodIn lw_tbl (cd_X2_firstFault.1.flatMap (fun e => mm_wdE mm_mth yX2_firstFault.cls e)) := goodIn_r _ [185, 474, 475, 476, 122, 184, 508, 509, 510, 120, 512, 514, 1, 121, 184, 576, 577, 578, 120, 184, 580, 581, 582, 120, 185, 585, 586, 587, 122, 185, 585, 586, 587, 122, 184, 516, 517, 518, 120, 184, 576, 577, 578, 120] (by decide +kernel) (by decide +kernel)
theorem ka_X2_isClauseNext : cd_X2_isClauseNext.1.all (fun e => mm_okB mm_mth mm_nest (yX2_isClauseNext, cX2_isClauseNext, 6, (some .boolean)) e) = true := by decide +kernel
theorem kb_X2_isClauseNext : GoodIn lw_tbl (cd_X2_isClauseNext.1.flatMap (fun e => mm_wdE mm_mth yX2_isClauseNext.cls e)) := goodIn_r _ [184, 516, 517, 518, 120, 520, 521, 122, 185, 525, 526, 527, 122, 184, 529, 530, 531, 120, 185, 533, 534, 535, 122, 184, 516, 517, 518, 120, 538, 539, 122, 184, 529, 530, 531, 120, 543, 545, 2, 121] (by decide +kernel) (by decide +kernel)
theorem ka_X2_isValueNext : cd_X2_isValueNext.1.all (fun e => mm_okB mm_mth mm_nest (yX2_isValueNext, cX2_isValueNext, 5, (some .boolean)) e) = true := by decide +kernel
theorem kb_X2_isValueNext : GoodIn lw_tbl (cd_X2_isValueNext.1.flatMap (fun e => mm_wdE mm_mth yX2_isValueNext.cls e)) := goodIn_r _ [184, 516, 517, 518, 120, 547, 548, 120, 184, 550, 551, 552, 120, 561, 562, 122, 184, 571, 572, 573, 120, 185, 575, 498, 499, 122] (by decide +kernel) (by decide +kernel)
theorem ka_X3_init : cd_X3_init.1.all (fun e => mm_okB mm_mth mm_nest (yX3_init, cX3_init, 2, none) e) = true := by decide +kernel
theorem kb_X3_init : GoodIn lw_tbl (cd_X3_init.1.flatMap (fun e => mm_wdE mm_mth yX3_init.cls e)) := goodIn_r _ [196, 146, 147, 164, 198, 197] (by decide +kernel) (by decide +kernel)
theorem ka_X3_code : cd_X3_code.1.all (fun e => mm_okB mm_mth mm_nest (yX3_code, cX3_code, 1, (some (.array .int))) e) = true := by decide +kernel
theorem kb_X3_code : GoodIn lw_tbl (cd_X3_code.1.flatMap (fun e => mm_wdE mm_mth yX3_code.cls e)) := goodIn_r _ [198, 199, 703, 704, 132] (by decide +kernel) (by decide +kernel)
theorem ka_X3_write : cd_X3_write.1.all (fun e => mm_okB mm_mth mm_nest (yX3_write, cX3_write, 2, none) e) = true := by decide +kernel
theorem kb_X3_write : GoodIn lw_tbl (cd_X3_write.1.flatMap (fun e => mm_wdE mm_mth yX3_write.cls e)) := goodIn_r _ [199, 199, 198, 198, 199, 199, 199] (by decide +kernel) (by decide +kernel)
theorem ka_X3_firstFault : cd_X3_firstFault.1.all (fun e => mm_okB mm_mth mm_nest (yX3_firstFault, cX3_firstFault, 2, (some .int)) e) = true := by decide +kernel
theorem kb_X3_firstFault : GoodIn lw_tbl (cd_X3_firstFault.1.flatMap (fun e => mm_wdE mm_mth yX3_firstFault.cls e)) := goodIn_r _ [199, 197, 593, 509, 510, 120, 594, 596, 4, 123, 197, 653, 577, 578, 120, 626, 628, 11, 123, 197, 598, 581, 582, 120, 197, 599, 517, 518, 120, 197, 653, 577, 578, 120] (by decide +kernel) (by decide +kernel)
theorem ka_X3_isClauseNext : cd_X3_isClauseNext.1.all (fun e => mm_okB mm_mth mm_nest (yX3_isClauseNext, cX3_isClauseNext, 2, (some .boolean)) e) = true := by decide +kernel
theorem kb_X3_isClauseNext : GoodIn lw_tbl (cd_X3_isClauseNext.1.flatMap (fun e => mm_wdE mm_mth yX3_isClauseNext.cls e)) := goodIn_r _ [197, 598, 581, 582, 120, 197, 598, 581, 582, 120, 197, 599, 517, 518, 120, 600, 602, 5, 123, 649, 651, 15, 123, 612, 614, 8, 123, 197, 599, 517, 518, 120, 638, 639, 123, 634, 636, 12, 123, 641, 643, 13, 123, 645, 647, 14, 123, 649, 651, 15, 123] (by decide +kernel) (by decide +kernel)
theorem ka_X3_isSumBehindCondition : cd_X3_isSumBehindCondition.1.all (fun e => mm_okB mm_mth mm_nest (yX3_isSumBehindCondition, cX3_isSumBehindCondition, 1, (some .boolean)) e) = true := by decide +kernel
theorem kb_X3_isSumBehindCondition : GoodIn lw_tbl (cd_X3_isSumBehindCondition.1.flatMap (fun e => mm_wdE mm_mth yX3_isSumBehindCondition.cls e)) := goodIn_r _ [197, 598, 581, 582, 120, 626, 628, 11, 123, 612, 614, 8, 123] (by decide +kernel) (by decide +kernel)
theorem ka_X3_isConditionNext : cd_X3_isConditionNext.1.all (fun e => mm_okB mm_mth mm_nest (yX3_isConditionNext, cX3_isConditionNext, 2, (some .boolean)) e) = true := by decide +kernel
theorem kb_X3_isConditionNext : GoodIn lw_tbl (cd_X3_isConditionNext.1.flatMap (fun e => mm_wdE mm_mth yX3_isConditionNext.cls e)) := goodIn_r _ [604, 606, 6, 123, 645, 647, 14, 123] (by decide +kernel) (by decide +kernel)
theorem ka_X3_areTruthsNext : cd_X3_areTruthsNext.1.all (fun e => mm_okB mm_mth mm_nest (yX3_areTruthsNext, cX3_areTruthsNext, 3, (some .boolean)) e) = true := by decide +kernel
theorem kb_X3_areTruthsNext : GoodIn lw_tbl (cd_X3_areTruthsNext.1.flatMap (fun e => mm_wdE mm_mth yX3_areTruthsNext.cls e)) := goodIn_r _ [197, 598, 581, 582, 120, 604, 606, 6, 123, 626, 628, 11, 123] (by decide +kernel) (by decide +kernel)
theorem ka_X3_isTruthNext : cd_X3_isTruthNext.1.all (fun e => mm_okB mm_mth mm_nest (yX3_isTruthNext, cX3_isTruthNext, 2, (some .boolean)) e) = true := by decide +kernel
theorem kb_X3_isTruthNext : GoodIn lw_tbl (cd_X3_isTruthNext.1.flatMap (fun e => mm_wdE mm_mth yX3_isTruthNext.cls e)) := goodIn_r _ [608, 610, 7, 123, 641, 643, 13, 123] (by decide +kernel) (by decide +kernel)
theorem ka_X3_areUnitsNext : cd_X3_areUnitsNext.1.all (fun e => mm_okB mm_mth mm_nest (yX3_areUnitsNext, cX3_areUnitsNext, 3, (some .boolean)) e) = true := by decide +kernel
theorem kb_X3_areUnitsNext : GoodIn lw_tbl (cd_X3_areUnitsNext.1.flatMap (fun e => mm_wdE mm_mth yX3_areUnitsNext.cls e)) := goodIn_r _ [197, 598, 581, 582, 120, 608, 610, 7, 123, 626, 628, 11, 123] (by decide +kernel) (by decide +kernel)
theorem ka_X3_isUnitNext : cd_X3_isUnitNext.1.all (fun e => mm_okB mm_mth mm_nest (yX3_isUnitNext, cX3_isUnitNext, 3, (some .boolean)) e) = true := by decide +kernel
theorem kb_X3_isUnitNext : GoodIn lw_tbl (cd_X3_isUnitNext.1.flatMap (fun e => mm_wdE mm_mth yX3_isUnitNext.cls e)) := goodIn_r _ [197, 599, 517, 518, 120, 612, 614, 8, 123, 634, 636, 12, 123, 197, 633, 530, 531, 120, 600, 602, 5, 123, 197, 598, 581, 582, 120, 608, 610, 7, 123, 626, 628, 11, 123] (by decide +kernel) (by decide +kernel)
theorem ka_X3_isComparedNext : cd_X3_isComparedNext.1.all (fun e => mm_okB mm_mth mm_nest (yX3_isComparedNext, cX3_isComparedNext, 3, (some .boolean)) e) = true := by decide +kernel
theorem kb_X3_isComparedNext : GoodIn lw_tbl (cd_X3_isComparedNext.1.flatMap (fun e => mm_wdE mm_mth yX3_isComparedNext.cls e)) := goodIn_r _ [197, 599, 517, 518, 120, 638, 639, 123, 197, 633, 530, 531, 120, 612, 614, 8, 123, 626, 628, 11, 123] (by decide +kernel) (by decide +kernel)
theorem ka_X3_isComparison : cd_X3_isComparison.1.all (fun e => mm_okB mm_mth mm_nest (yX3_isComparison, cX3_isComparison, 1, (some .boolean)) e) = true := by decide +kernel
theorem kb_X3_isComparison : GoodIn lw_tbl (cd_X3_isComparison.1.flatMap (fun e => mm_wdE mm_mth yX3_isComparison.cls e)) := goodIn_r _ [] (by decide +kernel) (by decide +kernel)
theorem ka_X3_isSumNext : cd_X3_isSumNext.1.all (fun e => mm_okB mm_mth mm_nest (yX3_isSumNext, cX3_isSumNext, 4, (some .boolean)) e) = true := by decide +kernel
theorem kb_X3_isSumNext : GoodIn lw_tbl (cd_X3_isSumNext.1.flatMap (fun e => mm_wdE mm_mth yX3_isSumNext.cls e)) := goodIn_r _ [616, 618, 9, 123, 197, 599, 517, 518, 120, 197, 633, 530, 531, 120, 616, 618, 9, 123, 626, 628, 11, 123] (by decide +kernel) (by decide +kernel)
theorem ka_X3_isTermNext : cd_X3_isTermNext.1.all (fun e => mm_okB mm_mth mm_nest (yX3_isTermNext, cX3_isTermNext, 4, (some .boolean)) e) = true := by decide +kernel
theorem kb_X3_isTermNext : GoodIn lw_tbl (cd_X3_isTermNext.1.flatMap (fun e => mm_wdE mm_mth yX3_isTermNext.cls e)) := goodIn_r _ [620, 622, 10, 123, 197, 599, 517, 518, 120, 197, 633, 530, 531, 120, 620, 622, 10, 123, 626, 628, 11, 123] (by decide +kernel) (by decide +kernel)
theorem ka_X3_isAtomNext : cd_X3_isAtomNext.1.all (fun e => mm_okB mm_mth mm_nest (yX3_isAtomNext, cX3_isAtomNext, 4, (some .boolean)) e) = true := by decide +kernel
theorem kb_X3_isAtomNext : GoodIn lw_tbl (cd_X3_isAtomNext.1.flatMap (fun e => mm_wdE mm_mth yX3_isAtomNext.cls e)) := goodIn_r _ [197, 599, 517, 518, 120, 624, 548, 120, 197, 625, 551, 552, 120, 626, 628, 11, 123, 630, 631, 123, 197, 633, 530, 531, 120, 626, 628, 11, 123, 197, 633, 530, 531, 120, 612, 614, 8, 123, 197, 598, 581, 582, 120] (by decide +kernel) (by decide +kernel)
theorem ka_X3_isLetter : cd_X3_isLetter.1.all (fun e => mm_okB mm_mth mm_nest (yX3_isLetter, cX3_isLetter, 1, (some .boolean)) e) = true := by decide +kernel
theorem kb_X3_isLetter : GoodIn lw_tbl (cd_X3_isLetter.1.flatMap (fun e => mm_wdE mm_mth yX3_isLetter.cls e)) := goodIn_r _ [] (by decide +kernel) (by decide +kernel)
theorem ka_X4_init : cd_X4_init.1.all (fun e => mm_okB mm_mth mm_nest (yX4_init, cX4_init, 1, none) e) = true := by decide +kernel
theorem kb_X4_init : GoodIn lw_tbl (cd_X4_init.1.flatMap (fun e => mm_wdE mm_mth yX4_init.cls e)) := goodIn_r _ [212, 146, 147, 213, 164, 215, 217, 164, 218] (by decide +kernel) (by decide +kernel)
theorem ka_X4_size : cd_X4_size.1.all (fun e => mm_okB mm_mth mm_nest (yX4_size, cX4_size, 1, (some .int)) e) = true := by decide +kernel
theorem kb_X4_size : GoodIn lw_tbl (cd_X4_size.1.flatMap (fun e => mm_wdE mm_mth yX4_size.cls e)) := goodIn_r _ [216] (by decide +kernel) (by decide +kernel)
theorem ka_X4_isFull : cd_X4_isFull.1.all (fun e => mm_okB mm_mth mm_nest (yX4_isFull, cX4_isFull, 1, (some .boolean)) e) = true := by decide +kernel
theorem kb_X4_isFull : GoodIn lw_tbl (cd_X4_isFull.1.flatMap (fun e => mm_wdE mm_mth yX4_isFull.cls e)) := goodIn_r _ [216] (by decide +kernel) (by decide +kernel)
theorem ka_X4_chosen : cd_X4_chosen.1.all (fun e => mm_okB mm_mth mm_nest (yX4_chosen, cX4_chosen, 1, (some .int)) e) = true := by decide +kernel
theorem kb_X4_chosen : GoodIn lw_tbl (cd_X4_chosen.1.flatMap (fun e => mm_wdE mm_mth yX4_chosen.cls e)) := goodIn_r _ [217] (by decide +kernel) (by decide +kernel)
theorem ka_X4_add : cd_X4_add.1.all (fun e => mm_okB mm_mth mm_nest (yX4_add, cX4_add, 2, (some .int)) e) = true := by decide +kernel
theorem kb_X4_add : GoodIn lw_tbl (cd_X4_add.1.flatMap (fun e => mm_wdE mm_mth yX4_add.cls e)) := goodIn_r _ [721, 696, 697, 124, 215, 216, 216, 216, 216] (by decide +kernel) (by decide +kernel)
theorem ka_X4_choose : cd_X4_choose.1.all (fun e => mm_okB mm_mth mm_nest (yX4_choose, cX4_choose, 2, (some .boolean)) e) = true := by decide +kernel
theorem kb_X4_choose : GoodIn lw_tbl (cd_X4_choose.1.flatMap (fun e => mm_wdE mm_mth yX4_choose.cls e)) := goodIn_r _ [216, 217] (by decide +kernel) (by decide +kernel)
theorem ka_X4_worth : cd_X4_worth.1.all (fun e => mm_okB mm_mth mm_nest (yX4_worth, cX4_worth, 11, (some .int)) e) = true := by decide +kernel
theorem kb_X4_worth : GoodIn lw_tbl (cd_X4_worth.1.flatMap (fun e => mm_wdE mm_mth yX4_worth.cls e)) := goodIn_r _ [220, 221, 222, 223, 224, 225, 219, 217, 217, 215, 215, 217, 215, 217, 791, 793, 22, 124, 791, 793, 22, 124, 795, 797, 23, 124, 807, 809, 24, 124] (by decide +kernel) (by decide +kernel)
theorem ka_X4_push : cd_X4_push.1.all (fun e => mm_okB mm_mth mm_nest (yX4_push, cX4_push, 3, none) e) = true := by decide +kernel
theorem kb_X4_push : GoodIn lw_tbl (cd_X4_push.1.flatMap (fun e => mm_wdE mm_mth yX4_push.cls e)) := goodIn_r _ [219, 219, 218, 218, 219, 799, 800, 801, 802, 133, 804, 805, 133, 219, 219] (by decide +kernel) (by decide +kernel)
theorem ka_X4_pop : cd_X4_pop.1.all (fun e => mm_okB mm_mth mm_nest (yX4_pop, cX4_pop, 1, (some .int)) e) = true := by decide +kernel
theorem kb_X4_pop : GoodIn lw_tbl (cd_X4_pop.1.flatMap (fun e => mm_wdE mm_mth yX4_pop.cls e)) := goodIn_r _ [219, 219, 218, 219, 219, 218, 219] (by decide +kernel) (by decide +kernel)
theorem ka_X4_apply : cd_X4_apply.1.all (fun e => mm_okB mm_mth mm_nest (yX4_apply, cX4_apply, 6, none) e) = true := by decide +kernel
theorem kb_X4_apply : GoodIn lw_tbl (cd_X4_apply.1.flatMap (fun e => mm_wdE mm_mth yX4_apply.cls e)) := goodIn_r _ [220, 795, 797, 23, 124, 221, 795, 797, 23, 124, 222, 795, 797, 23, 124, 223, 795, 797, 23, 124, 224, 795, 797, 23, 124, 225, 795, 797, 23, 124, 791, 793, 22, 124, 795, 797, 23, 124, 791, 793, 22, 124, 791, 793, 22, 124, 811, 812, 124, 795, 797, 23, 124] (by decide +kernel) (by decide +kernel)
theorem ka_X4_joined : cd_X4_joined.1.all (fun e => mm_okB mm_mth mm_nest (yX4_joined, cX4_joined, 5, (some .long)) e) = true := by decide +kernel
theorem kb_X4_joined : GoodIn lw_tbl (cd_X4_joined.1.flatMap (fun e => mm_wdE mm_mth yX4_joined.cls e)) := goodIn_r _ [] (by decide +kernel) (by decide +kernel)
theorem ka_X5_init : cd_X5_init.1.all (fun e => mm_okB mm_mth mm_nest (yX5_init, cX5_init, 1, none) e) = true := by decide +kernel
theorem kb_X5_init : GoodIn lw_tbl (cd_X5_init.1.flatMap (fun e => mm_wdE mm_mth yX5_init.cls e)) := goodIn_r _ [325, 146, 147, 164, 326] (by decide +kernel) (by decide +kernel)
theorem ka_X5_write : cd_X5_write.1.all (fun e => mm_okB mm_mth mm_nest (yX5_write, cX5_write, 6, none) e) = true := by decide +kernel
theorem kb_X5_write : GoodIn lw_tbl (cd_X5_write.1.flatMap (fun e => mm_wdE mm_mth yX5_write.cls e)) := goodIn_r _ [906, 907, 127, 326, 326, 326, 326] (by decide +kernel) (by decide +kernel)
theorem ka_X5_read : cd_X5_read.1.all (fun e => mm_okB mm_mth mm_nest (yX5_read, cX5_read, 4, (some .int)) e) = true := by decide +kernel
theorem kb_X5_read : GoodIn lw_tbl (cd_X5_read.1.flatMap (fun e => mm_wdE mm_mth yX5_read.cls e)) := goodIn_r _ [906, 907, 127, 326, 326] (by decide +kernel) (by decide +kernel)
theorem ka_X5_copyFrom : cd_X5_copyFrom.1.all (fun e => mm_okB mm_mth mm_nest (yX5_copyFrom, cX5_copyFrom, 2, none) e) = true := by decide +kernel
theorem kb_X5_copyFrom : GoodIn lw_tbl (cd_X5_copyFrom.1.flatMap (fun e => mm_wdE mm_mth yX5_copyFrom.cls e)) := goodIn_r _ [326, 326, 326, 1179, 672, 671, 134] (by decide +kernel) (by decide +kernel)
theorem ka_X5_placeOf : cd_X5_placeOf.1.all (fun e => mm_okB mm_mth mm_nest (yX5_placeOf, cX5_placeOf, 1, (some .int)) e) = true := by decide +kernel
theorem kb_X5_placeOf : GoodIn lw_tbl (cd_X5_placeOf.1.flatMap (fun e => mm_wdE mm_mth yX5_placeOf.cls e)) := goodIn_r _ [909, 910, 133] (by decide +kernel) (by decide +kernel)
theorem ka_X6_init : cd_X6_init.1.all (fun e => mm_okB mm_mth mm_nest (yX6_init, cX6_init, 1, none) e) = true := by decide +kernel
theorem kb_X6_init : GoodIn lw_tbl (cd_X6_init.1.flatMap (fun e => mm_wdE mm_mth yX6_init.cls e)) := goodIn_r _ [307, 146, 147, 308, 310] (by decide +kernel) (by decide +kernel)
theorem ka_X6_size : cd_X6_size.1.all (fun e => mm_okB mm_mth mm_nest (yX6_size, cX6_size, 1, (some .int)) e) = true := by decide +kernel
theorem kb_X6_size : GoodIn lw_tbl (cd_X6_size.1.flatMap (fun e => mm_wdE mm_mth yX6_size.cls e)) := goodIn_r _ [311] (by decide +kernel) (by decide +kernel)
