theorem ka_X6_clear : cd_X6_clear.1.all (fun e => mm_okB mm_mth mm_nest (yX6_clear, cX6_clear, 1, none) e) = true := by decide +kernel
theorem kb_X6_clear : GoodIn lw_tbl (cd_X6_clear.1.flatMap (fun e => mm_wdE mm_mth yX6_clear.cls e)) := goodIn_r _ [311] (by decide +kernel) (by decide +kernel)
theorem ka_X6_keep : cd_X6_keep.1.all (fun e => mm_okB mm_mth mm_nest (yX6_keep, cX6_keep, 2, none) e) = true := by decide +kernel
theorem kb_X6_keep : GoodIn lw_tbl (cd_X6_keep.1.flatMap (fun e => mm_wdE mm_mth yX6_keep.cls e)) := goodIn_r _ [312, 312, 310, 310, 312, 310, 312, 308, 252, 125, 254, 125, 310, 312, 769, 770, 771, 125, 312, 312, 311, 774, 714, 133, 311] (by decide +kernel) (by decide +kernel)
theorem ka_X6_takeBack : cd_X6_takeBack.1.all (fun e => mm_okB mm_mth mm_nest (yX6_takeBack, cX6_takeBack, 3, (some .boolean)) e) = true := by decide +kernel
theorem kb_X6_takeBack : GoodIn lw_tbl (cd_X6_takeBack.1.flatMap (fun e => mm_wdE mm_mth yX6_takeBack.cls e)) := goodIn_r _ [312, 311, 310, 310, 310, 769, 770, 771, 125, 312, 311, 311] (by decide +kernel) (by decide +kernel)
theorem ka_X7_init : cd_X7_init.1.all (fun e => mm_okB mm_mth mm_nest (yX7_init, cX7_init, 3, none) e) = true := by decide +kernel
theorem kb_X7_init : GoodIn lw_tbl (cd_X7_init.1.flatMap (fun e => mm_wdE mm_mth yX7_init.cls e)) := goodIn_r _ [358, 146, 147, 164, 361, 164, 362, 164, 363, 359, 360] (by decide +kernel) (by decide +kernel)
theorem ka_X7_bestSet : cd_X7_bestSet.1.all (fun e => mm_okB mm_mth mm_nest (yX7_bestSet, cX7_bestSet, 6, (some .int)) e) = true := by decide +kernel
theorem kb_X7_bestSet : GoodIn lw_tbl (cd_X7_bestSet.1.flatMap (fun e => mm_wdE mm_mth yX7_bestSet.cls e)) := goodIn_r _ [359, 1006, 586, 587, 122, 1007, 714, 133, 361, 1008, 1009, 139, 362, 362, 359, 1012, 683, 684, 122, 363, 363, 359, 1012, 683, 684, 122, 361, 1013, 1015, 40, 129, 361, 1030, 1032, 42, 129] (by decide +kernel) (by decide +kernel)
theorem ka_X7_leastRowOf : cd_X7_leastRowOf.1.all (fun e => mm_okB mm_mth mm_nest (yX7_leastRowOf, cX7_leastRowOf, 2, (some .int)) e) = true := by decide +kernel
theorem kb_X7_leastRowOf : GoodIn lw_tbl (cd_X7_leastRowOf.1.flatMap (fun e => mm_wdE mm_mth yX7_leastRowOf.cls e)) := goodIn_r _ [361] (by decide +kernel) (by decide +kernel)
theorem ka_X7_valueOf : cd_X7_valueOf.1.all (fun e => mm_okB mm_mth mm_nest (yX7_valueOf, cX7_valueOf, 2, (some .int)) e) = true := by decide +kernel
theorem kb_X7_valueOf : GoodIn lw_tbl (cd_X7_valueOf.1.flatMap (fun e => mm_wdE mm_mth yX7_valueOf.cls e)) := goodIn_r _ [363] (by decide +kernel) (by decide +kernel)
theorem ka_X7_standsBehind : cd_X7_standsBehind.1.all (fun e => mm_okB mm_mth mm_nest (yX7_standsBehind, cX7_standsBehind, 2, (some .int)) e) = true := by decide +kernel
theorem kb_X7_standsBehind : GoodIn lw_tbl (cd_X7_standsBehind.1.flatMap (fun e => mm_wdE mm_mth yX7_standsBehind.cls e)) := goodIn_r _ [360, 362, 1029, 559, 133] (by decide +kernel) (by decide +kernel)
theorem ka_X7_leastRowTo : cd_X7_leastRowTo.1.all (fun e => mm_okB mm_mth mm_nest (yX7_leastRowTo, cX7_leastRowTo, 5, (some .int)) e) = true := by decide +kernel
theorem kb_X7_leastRowTo : GoodIn lw_tbl (cd_X7_leastRowTo.1.flatMap (fun e => mm_wdE mm_mth yX7_leastRowTo.cls e)) := goodIn_r _ [360, 359, 1006, 586, 587, 122, 1017, 1019, 41, 129, 1021, 1022, 1023, 129, 1007, 714, 133] (by decide +kernel) (by decide +kernel)
theorem ka_X7_canEnd : cd_X7_canEnd.1.all (fun e => mm_okB mm_mth mm_nest (yX7_canEnd, cX7_canEnd, 4, (some .boolean)) e) = true := by decide +kernel
theorem kb_X7_canEnd : GoodIn lw_tbl (cd_X7_canEnd.1.flatMap (fun e => mm_wdE mm_mth yX7_canEnd.cls e)) := goodIn_r _ [1021, 1022, 1023, 129, 1025, 1026, 1027, 129, 359, 1012, 683, 684, 122] (by decide +kernel) (by decide +kernel)
theorem ka_X7_isBetter : cd_X7_isBetter.1.all (fun e => mm_okB mm_mth mm_nest (yX7_isBetter, cX7_isBetter, 6, (some .boolean)) e) = true := by decide +kernel
theorem kb_X7_isBetter : GoodIn lw_tbl (cd_X7_isBetter.1.flatMap (fun e => mm_wdE mm_mth yX7_isBetter.cls e)) := goodIn_r _ [1034, 1035, 1036, 129, 1034, 1035, 1036, 129, 1025, 1026, 1027, 129, 1025, 1026, 1027, 129, 1038, 1039, 139, 1038, 1039, 139, 1021, 1022, 1023, 129, 1021, 1022, 1023, 129] (by decide +kernel) (by decide +kernel)
theorem ka_X8_init : cd_X8_init.1.all (fun e => mm_okB mm_mth mm_nest (yX8_init, cX8_init, 1, none) e) = true := by decide +kernel
theorem kb_X8_init : GoodIn lw_tbl (cd_X8_init.1.flatMap (fun e => mm_wdE mm_mth yX8_init.cls e)) := goodIn_r _ [335, 146, 147, 164, 336, 164, 337, 164, 338, 352, 339] (by decide +kernel) (by decide +kernel)
theorem ka_X8_size : cd_X8_size.1.all (fun e => mm_okB mm_mth mm_nest (yX8_size, cX8_size, 1, (some .int)) e) = true := by decide +kernel
theorem kb_X8_size : GoodIn lw_tbl (cd_X8_size.1.flatMap (fun e => mm_wdE mm_mth yX8_size.cls e)) := goodIn_r _ [340] (by decide +kernel) (by decide +kernel)
theorem ka_X8_isFull : cd_X8_isFull.1.all (fun e => mm_okB mm_mth mm_nest (yX8_isFull, cX8_isFull, 1, (some .boolean)) e) = true := by decide +kernel
theorem kb_X8_isFull : GoodIn lw_tbl (cd_X8_isFull.1.flatMap (fun e => mm_wdE mm_mth yX8_isFull.cls e)) := goodIn_r _ [340] (by decide +kernel) (by decide +kernel)
theorem ka_X8_clear : cd_X8_clear.1.all (fun e => mm_okB mm_mth mm_nest (yX8_clear, cX8_clear, 1, none) e) = true := by decide +kernel
theorem kb_X8_clear : GoodIn lw_tbl (cd_X8_clear.1.flatMap (fun e => mm_wdE mm_mth yX8_clear.cls e)) := goodIn_r _ [340] (by decide +kernel) (by decide +kernel)
theorem ka_X8_add : cd_X8_add.1.all (fun e => mm_okB mm_mth mm_nest (yX8_add, cX8_add, 5, none) e) = true := by decide +kernel
theorem kb_X8_add : GoodIn lw_tbl (cd_X8_add.1.flatMap (fun e => mm_wdE mm_mth yX8_add.cls e)) := goodIn_r _ [340, 340, 336, 340, 337, 340, 338, 340, 339, 340, 340, 340] (by decide +kernel) (by decide +kernel)
theorem ka_X8_furthestOf : cd_X8_furthestOf.1.all (fun e => mm_okB mm_mth mm_nest (yX8_furthestOf, cX8_furthestOf, 4, (some .int)) e) = true := by decide +kernel
theorem kb_X8_furthestOf : GoodIn lw_tbl (cd_X8_furthestOf.1.flatMap (fun e => mm_wdE mm_mth yX8_furthestOf.cls e)) := goodIn_r _ [340, 336, 337, 1087, 559, 133] (by decide +kernel) (by decide +kernel)
theorem ka_X8_isAgainst : cd_X8_isAgainst.1.all (fun e => mm_okB mm_mth mm_nest (yX8_isAgainst, cX8_isAgainst, 5, (some .boolean)) e) = true := by decide +kernel
theorem kb_X8_isAgainst : GoodIn lw_tbl (cd_X8_isAgainst.1.flatMap (fun e => mm_wdE mm_mth yX8_isAgainst.cls e)) := goodIn_r _ [340, 336, 337, 338, 339] (by decide +kernel) (by decide +kernel)
theorem ka_X9_init : cd_X9_init.1.all (fun e => mm_okB mm_mth mm_nest (yX9_init, cX9_init, 1, none) e) = true := by decide +kernel
theorem kb_X9_init : GoodIn lw_tbl (cd_X9_init.1.flatMap (fun e => mm_wdE mm_mth yX9_init.cls e)) := goodIn_r _ [153, 146, 147, 164, 154] (by decide +kernel) (by decide +kernel)
theorem ka_X9_size : cd_X9_size.1.all (fun e => mm_okB mm_mth mm_nest (yX9_size, cX9_size, 1, (some .int)) e) = true := by decide +kernel
theorem kb_X9_size : GoodIn lw_tbl (cd_X9_size.1.flatMap (fun e => mm_wdE mm_mth yX9_size.cls e)) := goodIn_r _ [155] (by decide +kernel) (by decide +kernel)
theorem ka_X9_signsIn : cd_X9_signsIn.1.all (fun e => mm_okB mm_mth mm_nest (yX9_signsIn, cX9_signsIn, 3, (some .int)) e) = true := by decide +kernel
theorem kb_X9_signsIn : GoodIn lw_tbl (cd_X9_signsIn.1.flatMap (fun e => mm_wdE mm_mth yX9_signsIn.cls e)) := goodIn_r _ [] (by decide +kernel) (by decide +kernel)
theorem ka_X9_put : cd_X9_put.1.all (fun e => mm_okB mm_mth mm_nest (yX9_put, cX9_put, 4, none) e) = true := by decide +kernel
theorem kb_X9_put : GoodIn lw_tbl (cd_X9_put.1.flatMap (fun e => mm_wdE mm_mth yX9_put.cls e)) := goodIn_r _ [155, 154, 154, 155, 155, 155] (by decide +kernel) (by decide +kernel)
theorem ka_X9_cutBehind : cd_X9_cutBehind.1.all (fun e => mm_okB mm_mth mm_nest (yX9_cutBehind, cX9_cutBehind, 2, (some .boolean)) e) = true := by decide +kernel
theorem kb_X9_cutBehind : GoodIn lw_tbl (cd_X9_cutBehind.1.flatMap (fun e => mm_wdE mm_mth yX9_cutBehind.cls e)) := goodIn_r _ [155, 155] (by decide +kernel) (by decide +kernel)
theorem ka_X9_rewind : cd_X9_rewind.1.all (fun e => mm_okB mm_mth mm_nest (yX9_rewind, cX9_rewind, 1, none) e) = true := by decide +kernel
theorem kb_X9_rewind : GoodIn lw_tbl (cd_X9_rewind.1.flatMap (fun e => mm_wdE mm_mth yX9_rewind.cls e)) := goodIn_r _ [156] (by decide +kernel) (by decide +kernel)
theorem ka_X9_at : cd_X9_at.1.all (fun e => mm_okB mm_mth mm_nest (yX9_at, cX9_at, 1, (some .int)) e) = true := by decide +kernel
theorem kb_X9_at : GoodIn lw_tbl (cd_X9_at.1.flatMap (fun e => mm_wdE mm_mth yX9_at.cls e)) := goodIn_r _ [156] (by decide +kernel) (by decide +kernel)
theorem ka_X9_look : cd_X9_look.1.all (fun e => mm_okB mm_mth mm_nest (yX9_look, cX9_look, 1, (some .int)) e) = true := by decide +kernel
theorem kb_X9_look : GoodIn lw_tbl (cd_X9_look.1.flatMap (fun e => mm_wdE mm_mth yX9_look.cls e)) := goodIn_r _ [156, 156, 155, 156, 154, 154, 156, 156, 156, 156, 156, 155, 156, 154, 154, 156] (by decide +kernel) (by decide +kernel)
theorem ka_X9_step : cd_X9_step.1.all (fun e => mm_okB mm_mth mm_nest (yX9_step, cX9_step, 1, none) e) = true := by decide +kernel
theorem kb_X9_step : GoodIn lw_tbl (cd_X9_step.1.flatMap (fun e => mm_wdE mm_mth yX9_step.cls e)) := goodIn_r _ [156, 156] (by decide +kernel) (by decide +kernel)
theorem ka_X9_stepBack : cd_X9_stepBack.1.all (fun e => mm_okB mm_mth mm_nest (yX9_stepBack, cX9_stepBack, 1, none) e) = true := by decide +kernel
theorem kb_X9_stepBack : GoodIn lw_tbl (cd_X9_stepBack.1.flatMap (fun e => mm_wdE mm_mth yX9_stepBack.cls e)) := goodIn_r _ [156, 156] (by decide +kernel) (by decide +kernel)
theorem ka_X9_take : cd_X9_take.1.all (fun e => mm_okB mm_mth mm_nest (yX9_take, cX9_take, 2, (some .boolean)) e) = true := by decide +kernel
theorem kb_X9_take : GoodIn lw_tbl (cd_X9_take.1.flatMap (fun e => mm_wdE mm_mth yX9_take.cls e)) := goodIn_r _ [584, 517, 518, 120, 156, 156] (by decide +kernel) (by decide +kernel)
theorem ka_X9_number : cd_X9_number.1.all (fun e => mm_okB mm_mth mm_nest (yX9_number, cX9_number, 4, (some .int)) e) = true := by decide +kernel
theorem kb_X9_number : GoodIn lw_tbl (cd_X9_number.1.flatMap (fun e => mm_wdE mm_mth yX9_number.cls e)) := goodIn_r _ [554, 556, 3, 120, 558, 559, 133, 154, 156, 156, 156, 554, 556, 3, 120] (by decide +kernel) (by decide +kernel)
theorem ka_X9_isDigitHere : cd_X9_isDigitHere.1.all (fun e => mm_okB mm_mth mm_nest (yX9_isDigitHere, cX9_isDigitHere, 1, (some .boolean)) e) = true := by decide +kernel
theorem kb_X9_isDigitHere : GoodIn lw_tbl (cd_X9_isDigitHere.1.flatMap (fun e => mm_wdE mm_mth yX9_isDigitHere.cls e)) := goodIn_r _ [156, 156, 155, 156, 154, 154, 156, 154, 156] (by decide +kernel) (by decide +kernel)
theorem ka_X9_isDigit : cd_X9_isDigit.1.all (fun e => mm_okB mm_mth mm_nest (yX9_isDigit, cX9_isDigit, 1, (some .boolean)) e) = true := by decide +kernel
theorem kb_X9_isDigit : GoodIn lw_tbl (cd_X9_isDigit.1.flatMap (fun e => mm_wdE mm_mth yX9_isDigit.cls e)) := goodIn_r _ [] (by decide +kernel) (by decide +kernel)
theorem ka_X10_init : cd_X10_init.1.all (fun e => mm_okB mm_mth mm_nest (yX10_init, cX10_init, 1, none) e) = true := by decide +kernel
theorem kb_X10_init : GoodIn lw_tbl (cd_X10_init.1.flatMap (fun e => mm_wdE mm_mth yX10_init.cls e)) := goodIn_r _ [176, 146, 147, 164, 177, 164, 178] (by decide +kernel) (by decide +kernel)
theorem ka_X10_clear : cd_X10_clear.1.all (fun e => mm_okB mm_mth mm_nest (yX10_clear, cX10_clear, 1, none) e) = true := by decide +kernel
theorem kb_X10_clear : GoodIn lw_tbl (cd_X10_clear.1.flatMap (fun e => mm_wdE mm_mth yX10_clear.cls e)) := goodIn_r _ [178, 478, 479, 132, 481, 483, 0, 122] (by decide +kernel) (by decide +kernel)
theorem ka_X10_copyFrom : cd_X10_copyFrom.1.all (fun e => mm_okB mm_mth mm_nest (yX10_copyFrom, cX10_copyFrom, 2, none) e) = true := by decide +kernel
theorem kb_X10_copyFrom : GoodIn lw_tbl (cd_X10_copyFrom.1.flatMap (fun e => mm_wdE mm_mth yX10_copyFrom.cls e)) := goodIn_r _ [177, 177, 670, 672, 671, 134, 178, 178, 670, 672, 671, 134] (by decide +kernel) (by decide +kernel)
theorem ka_X10_howMany : cd_X10_howMany.1.all (fun e => mm_okB mm_mth mm_nest (yX10_howMany, cX10_howMany, 2, (some .int)) e) = true := by decide +kernel
theorem kb_X10_howMany : GoodIn lw_tbl (cd_X10_howMany.1.flatMap (fun e => mm_wdE mm_mth yX10_howMany.cls e)) := goodIn_r _ [485, 486, 122, 178] (by decide +kernel) (by decide +kernel)
theorem ka_X10_isFull : cd_X10_isFull.1.all (fun e => mm_okB mm_mth mm_nest (yX10_isFull, cX10_isFull, 2, (some .boolean)) e) = true := by decide +kernel
theorem kb_X10_isFull : GoodIn lw_tbl (cd_X10_isFull.1.flatMap (fun e => mm_wdE mm_mth yX10_isFull.cls e)) := goodIn_r _ [485, 486, 122, 178, 504] (by decide +kernel) (by decide +kernel)
theorem ka_X10_kindBy : cd_X10_kindBy.1.all (fun e => mm_okB mm_mth mm_nest (yX10_kindBy, cX10_kindBy, 2, (some .int)) e) = true := by decide +kernel
theorem kb_X10_kindBy : GoodIn lw_tbl (cd_X10_kindBy.1.flatMap (fun e => mm_wdE mm_mth yX10_kindBy.cls e)) := goodIn_r _ [523, 523] (by decide +kernel) (by decide +kernel)
theorem ka_X10_itemBy : cd_X10_itemBy.1.all (fun e => mm_okB mm_mth mm_nest (yX10_itemBy, cX10_itemBy, 5, (some .int)) e) = true := by decide +kernel
theorem kb_X10_itemBy : GoodIn lw_tbl (cd_X10_itemBy.1.flatMap (fun e => mm_wdE mm_mth yX10_itemBy.cls e)) := goodIn_r _ [485, 486, 122, 488, 490, 491, 122, 541] (by decide +kernel) (by decide +kernel)
theorem ka_X10_isAllowed : cd_X10_isAllowed.1.all (fun e => mm_okB mm_mth mm_nest (yX10_isAllowed, cX10_isAllowed, 4, (some .boolean)) e) = true := by decide +kernel
theorem kb_X10_isAllowed : GoodIn lw_tbl (cd_X10_isAllowed.1.flatMap (fun e => mm_wdE mm_mth yX10_isAllowed.cls e)) := goodIn_r _ [490, 491, 122, 564, 566, 569, 119] (by decide +kernel) (by decide +kernel)
theorem ka_X10_add : cd_X10_add.1.all (fun e => mm_okB mm_mth mm_nest (yX10_add, cX10_add, 3, (some .int)) e) = true := by decide +kernel
theorem kb_X10_add : GoodIn lw_tbl (cd_X10_add.1.flatMap (fun e => mm_wdE mm_mth yX10_add.cls e)) := goodIn_r _ [537, 526, 527, 122, 178, 178, 481, 483, 0, 122] (by decide +kernel) (by decide +kernel)
theorem ka_X10_fillWithout : cd_X10_fillWithout.1.all (fun e => mm_okB mm_mth mm_nest (yX10_fillWithout, cX10_fillWithout, 6, none) e) = true := by decide +kernel
theorem kb_X10_fillWithout : GoodIn lw_tbl (cd_X10_fillWithout.1.flatMap (fun e => mm_wdE mm_mth yX10_fillWithout.cls e)) := goodIn_r _ [485, 486, 122, 488, 490, 491, 122, 495, 497, 498, 499, 122] (by decide +kernel) (by decide +kernel)
theorem ka_X10_set : cd_X10_set.1.all (fun e => mm_okB mm_mth mm_nest (yX10_set, cX10_set, 6, none) e) = true := by decide +kernel
theorem kb_X10_set : GoodIn lw_tbl (cd_X10_set.1.flatMap (fun e => mm_wdE mm_mth yX10_set.cls e)) := goodIn_r _ [501, 502, 122, 177] (by decide +kernel) (by decide +kernel)
theorem ka_X10_item : cd_X10_item.1.all (fun e => mm_okB mm_mth mm_nest (yX10_item, cX10_item, 5, (some .int)) e) = true := by decide +kernel
theorem kb_X10_item : GoodIn lw_tbl (cd_X10_item.1.flatMap (fun e => mm_wdE mm_mth yX10_item.cls e)) := goodIn_r _ [501, 502, 122, 177] (by decide +kernel) (by decide +kernel)
theorem ka_X10_isKind : cd_X10_isKind.1.all (fun e => mm_okB mm_mth mm_nest (yX10_isKind, cX10_isKind, 1, (some .boolean)) e) = true := by decide +kernel
theorem kb_X10_isKind : GoodIn lw_tbl (cd_X10_isKind.1.flatMap (fun e => mm_wdE mm_mth yX10_isKind.cls e)) := goodIn_r _ [] (by decide +kernel) (by decide +kernel)
theorem ka_X10_lineOf : cd_X10_lineOf.1.all (fun e => mm_okB mm_mth mm_nest (yX10_lineOf, cX10_lineOf, 2, (some .int)) e) = true := by decide +kernel
theorem kb_X10_lineOf : GoodIn lw_tbl (cd_X10_lineOf.1.flatMap (fun e => mm_wdE mm_mth yX10_lineOf.cls e)) := goodIn_r _ [485, 486, 122, 488, 493] (by decide +kernel) (by decide +kernel)
theorem ka_X10_placeOf : cd_X10_placeOf.1.all (fun e => mm_okB mm_mth mm_nest (yX10_placeOf, cX10_placeOf, 3, (some .int)) e) = true := by decide +kernel
theorem kb_X10_placeOf : GoodIn lw_tbl (cd_X10_placeOf.1.flatMap (fun e => mm_wdE mm_mth yX10_placeOf.cls e)) := goodIn_r _ [485, 486, 122, 504, 488, 506, 488] (by decide +kernel) (by decide +kernel)
theorem ka_X11_init : cd_X11_init.1.all (fun e => mm_okB mm_mth mm_nest (yX11_init, cX11_init, 1, none) e) = true := by decide +kernel
theorem kb_X11_init : GoodIn lw_tbl (cd_X11_init.1.flatMap (fun e => mm_wdE mm_mth yX11_init.cls e)) := goodIn_r _ [145, 146, 147, 148, 149, 120, 151, 120, 385, 165, 166, 121, 385, 167, 168, 121, 386, 191, 192, 123, 385, 193, 194, 123, 387, 207, 208, 124, 210, 124, 388, 249, 172, 122, 174, 122, 389, 251, 252, 125, 254, 125, 390, 302, 303, 126, 305, 126, 391, 320, 321, 127, 323, 127, 392, 251, 252, 125, 254, 125, 393, 320, 321, 127, 323, 127, 394, 330, 331, 128, 333, 128, 395, 353, 354, 129, 389, 390, 355, 356, 129, 396, 375, 376, 130, 378, 130, 397, 164, 398, 164, 399, 164, 400, 403] (by decide +kernel) (by decide +kernel)
theorem ka_X11_feed : cd_X11_feed.1.all (fun e => mm_okB mm_mth mm_nest (yX11_feed, cX11_feed, 7, (some .int)) e) = true := by decide +kernel
theorem kb_X11_feed : GoodIn lw_tbl (cd_X11_feed.1.flatMap (fun e => mm_wdE mm_mth yX11_feed.cls e)) := goodIn_r _ [447, 448, 120, 447, 448, 120, 447, 448, 120, 447, 448, 120, 447, 448, 120, 385, 450, 451, 452, 120, 385, 454, 455, 456, 120, 385, 454, 455, 456, 120, 385, 454, 455, 456, 120, 385, 454, 455, 456, 120, 385, 454, 455, 456, 120, 385, 450, 451, 452, 120] (by decide +kernel) (by decide +kernel)
theorem ka_X11_end : cd_X11_end.1.all (fun e => mm_okB mm_mth mm_nest (yX11_end, cX11_end, 2, (some .boolean)) e) = true := by decide +kernel
theorem kb_X11_end : GoodIn lw_tbl (cd_X11_end.1.flatMap (fun e => mm_wdE mm_mth yX11_end.cls e)) := goodIn_r _ [385, 462, 463, 464, 120] (by decide +kernel) (by decide +kernel)
theorem ka_X11_fault : cd_X11_fault.1.all (fun e => mm_okB mm_mth mm_nest (yX11_fault, cX11_fault, 2, (some .int)) e) = true := by decide +kernel
theorem kb_X11_fault : GoodIn lw_tbl (cd_X11_fault.1.flatMap (fun e => mm_wdE mm_mth yX11_fault.cls e)) := goodIn_r _ [386, 470, 471, 472, 121, 387, 589, 590, 591, 123] (by decide +kernel) (by decide +kernel)
