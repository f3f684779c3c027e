theorem ka_X11_text : cd_X11_text.1.all (fun e => mm_okB mm_mth mm_nest (yX11_text, cX11_text, 2, (some .int)) e) = true := by decide +kernel
theorem kb_X11_text : GoodIn lw_tbl (cd_X11_text.1.flatMap (fun e => mm_wdE mm_mth yX11_text.cls e)) := goodIn_r _ [386, 470, 471, 472, 121, 385, 462, 463, 464, 120, 658, 660, 16, 119, 389, 694, 586, 587, 122, 388, 695, 696, 697, 124, 387, 589, 590, 591, 123, 385, 462, 463, 464, 120, 388, 387, 699, 700, 701, 123, 717, 718, 719, 124] (by decide +kernel) (by decide +kernel)
theorem ka_X11_beginDuchy : cd_X11_beginDuchy.1.all (fun e => mm_okB mm_mth mm_nest (yX11_beginDuchy, cX11_beginDuchy, 1, none) e) = true := by decide +kernel
theorem kb_X11_beginDuchy : GoodIn lw_tbl (cd_X11_beginDuchy.1.flatMap (fun e => mm_wdE mm_mth yX11_beginDuchy.cls e)) := goodIn_r _ [389, 386, 662, 663, 664, 121, 666, 667, 668, 122, 390, 389, 673, 674, 675, 125, 391, 686, 687, 688, 126, 395, 690, 691, 692, 128, 401, 402] (by decide +kernel) (by decide +kernel)
theorem ka_X11_law : cd_X11_law.1.all (fun e => mm_okB mm_mth mm_nest (yX11_law, cX11_law, 2, (some .boolean)) e) = true := by decide +kernel
theorem kb_X11_law : GoodIn lw_tbl (cd_X11_law.1.flatMap (fun e => mm_wdE mm_mth yX11_law.cls e)) := goodIn_r _ [388, 726, 727, 728, 124] (by decide +kernel) (by decide +kernel)
theorem ka_X11_rule : cd_X11_rule.1.all (fun e => mm_okB mm_mth mm_nest (yX11_rule, cX11_rule, 2, (some .int)) e) = true := by decide +kernel
theorem kb_X11_rule : GoodIn lw_tbl (cd_X11_rule.1.flatMap (fun e => mm_wdE mm_mth yX11_rule.cls e)) := goodIn_r _ [401, 389, 734, 683, 684, 122, 390, 390] (by decide +kernel) (by decide +kernel)
theorem ka_X11_cook : cd_X11_cook.1.all (fun e => mm_okB mm_mth mm_nest (yX11_cook, cX11_cook, 3, (some .int)) e) = true := by decide +kernel
theorem kb_X11_cook : GoodIn lw_tbl (cd_X11_cook.1.flatMap (fun e => mm_wdE mm_mth yX11_cook.cls e)) := goodIn_r _ [739, 741, 17, 119, 390, 744, 745, 746, 125, 389, 734, 683, 684, 122, 390, 748, 749, 750, 125] (by decide +kernel) (by decide +kernel)
theorem ka_X11_minister : cd_X11_minister.1.all (fun e => mm_okB mm_mth mm_nest (yX11_minister, cX11_minister, 3, (some .int)) e) = true := by decide +kernel
theorem kb_X11_minister : GoodIn lw_tbl (cd_X11_minister.1.flatMap (fun e => mm_wdE mm_mth yX11_minister.cls e)) := goodIn_r _ [827, 829, 25, 119, 743, 569, 119, 831, 833, 26, 119, 389, 734, 683, 684, 122] (by decide +kernel) (by decide +kernel)
theorem ka_X11_hasCook : cd_X11_hasCook.1.all (fun e => mm_okB mm_mth mm_nest (yX11_hasCook, cX11_hasCook, 2, (some .boolean)) e) = true := by decide +kernel
theorem kb_X11_hasCook : GoodIn lw_tbl (cd_X11_hasCook.1.flatMap (fun e => mm_wdE mm_mth yX11_hasCook.cls e)) := goodIn_r _ [401, 389, 694, 586, 587, 122, 743, 569, 119] (by decide +kernel) (by decide +kernel)
theorem ka_X11_hasTwoCooks : cd_X11_hasTwoCooks.1.all (fun e => mm_okB mm_mth mm_nest (yX11_hasTwoCooks, cX11_hasTwoCooks, 3, (some .boolean)) e) = true := by decide +kernel
theorem kb_X11_hasTwoCooks : GoodIn lw_tbl (cd_X11_hasTwoCooks.1.flatMap (fun e => mm_wdE mm_mth yX11_hasTwoCooks.cls e)) := goodIn_r _ [739, 741, 17, 119, 739, 741, 17, 119] (by decide +kernel) (by decide +kernel)
theorem ka_X11_hasMinister : cd_X11_hasMinister.1.all (fun e => mm_okB mm_mth mm_nest (yX11_hasMinister, cX11_hasMinister, 2, (some .boolean)) e) = true := by decide +kernel
theorem kb_X11_hasMinister : GoodIn lw_tbl (cd_X11_hasMinister.1.flatMap (fun e => mm_wdE mm_mth yX11_hasMinister.cls e)) := goodIn_r _ [401, 389, 694, 586, 587, 122, 743, 569, 119] (by decide +kernel) (by decide +kernel)
theorem ka_X11_isInside : cd_X11_isInside.1.all (fun e => mm_okB mm_mth mm_nest (yX11_isInside, cX11_isInside, 2, (some .boolean)) e) = true := by decide +kernel
theorem kb_X11_isInside : GoodIn lw_tbl (cd_X11_isInside.1.flatMap (fun e => mm_wdE mm_mth yX11_isInside.cls e)) := goodIn_r _ [390] (by decide +kernel) (by decide +kernel)
theorem ka_X11_sumInside : cd_X11_sumInside.1.all (fun e => mm_okB mm_mth mm_nest (yX11_sumInside, cX11_sumInside, 4, (some .int)) e) = true := by decide +kernel
theorem kb_X11_sumInside : GoodIn lw_tbl (cd_X11_sumInside.1.flatMap (fun e => mm_wdE mm_mth yX11_sumInside.cls e)) := goodIn_r _ [389, 694, 586, 587, 122, 831, 833, 26, 119, 389, 734, 683, 684, 122] (by decide +kernel) (by decide +kernel)
theorem ka_X11_strokesLeft : cd_X11_strokesLeft.1.all (fun e => mm_okB mm_mth mm_nest (yX11_strokesLeft, cX11_strokesLeft, 2, (some .int)) e) = true := by decide +kernel
theorem kb_X11_strokesLeft : GoodIn lw_tbl (cd_X11_strokesLeft.1.flatMap (fun e => mm_wdE mm_mth yX11_strokesLeft.cls e)) := goodIn_r _ [389, 734, 683, 684, 122, 390, 748, 749, 750, 125] (by decide +kernel) (by decide +kernel)
theorem ka_X11_canFold : cd_X11_canFold.1.all (fun e => mm_okB mm_mth mm_nest (yX11_canFold, cX11_canFold, 2, (some .boolean)) e) = true := by decide +kernel
theorem kb_X11_canFold : GoodIn lw_tbl (cd_X11_canFold.1.flatMap (fun e => mm_wdE mm_mth yX11_canFold.cls e)) := goodIn_r _ [831, 833, 26, 119, 390, 389, 734, 683, 684, 122] (by decide +kernel) (by decide +kernel)
theorem ka_X11_couldFold : cd_X11_couldFold.1.all (fun e => mm_okB mm_mth mm_nest (yX11_couldFold, cX11_couldFold, 3, (some .int)) e) = true := by decide +kernel
theorem kb_X11_couldFold : GoodIn lw_tbl (cd_X11_couldFold.1.flatMap (fun e => mm_wdE mm_mth yX11_couldFold.cls e)) := goodIn_r _ [389, 694, 586, 587, 122, 835, 837, 27, 119] (by decide +kernel) (by decide +kernel)
theorem ka_X11_whisked : cd_X11_whisked.1.all (fun e => mm_okB mm_mth mm_nest (yX11_whisked, cX11_whisked, 9, (some .int)) e) = true := by decide +kernel
theorem kb_X11_whisked : GoodIn lw_tbl (cd_X11_whisked.1.flatMap (fun e => mm_wdE mm_mth yX11_whisked.cls e)) := goodIn_r _ [389, 734, 683, 684, 122, 389, 734, 683, 684, 122, 388, 783, 784, 785, 124, 388, 787, 788, 789, 124, 814, 815, 119, 814, 815, 119] (by decide +kernel) (by decide +kernel)
theorem ka_X11_whisk : cd_X11_whisk.1.all (fun e => mm_okB mm_mth mm_nest (yX11_whisk, cX11_whisk, 5, none) e) = true := by decide +kernel
theorem kb_X11_whisk : GoodIn lw_tbl (cd_X11_whisk.1.flatMap (fun e => mm_wdE mm_mth yX11_whisk.cls e)) := goodIn_r _ [390, 744, 745, 746, 125, 390, 390, 390, 390, 779, 781, 21, 119, 390, 390, 819, 820, 821, 125] (by decide +kernel) (by decide +kernel)
theorem ka_X11_foldIn : cd_X11_foldIn.1.all (fun e => mm_okB mm_mth mm_nest (yX11_foldIn, cX11_foldIn, 2, none) e) = true := by decide +kernel
theorem kb_X11_foldIn : GoodIn lw_tbl (cd_X11_foldIn.1.flatMap (fun e => mm_wdE mm_mth yX11_foldIn.cls e)) := goodIn_r _ [390, 390, 389, 734, 683, 684, 122, 818, 559, 133, 390] (by decide +kernel) (by decide +kernel)
theorem ka_X11_openDoor : cd_X11_openDoor.1.all (fun e => mm_okB mm_mth mm_nest (yX11_openDoor, cX11_openDoor, 1, none) e) = true := by decide +kernel
theorem kb_X11_openDoor : GoodIn lw_tbl (cd_X11_openDoor.1.flatMap (fun e => mm_wdE mm_mth yX11_openDoor.cls e)) := goodIn_r _ [390, 390, 855, 857, 30, 119] (by decide +kernel) (by decide +kernel)
theorem ka_X11_passHour : cd_X11_passHour.1.all (fun e => mm_okB mm_mth mm_nest (yX11_passHour, cX11_passHour, 1, none) e) = true := by decide +kernel
theorem kb_X11_passHour : GoodIn lw_tbl (cd_X11_passHour.1.flatMap (fun e => mm_wdE mm_mth yX11_passHour.cls e)) := goodIn_r _ [390, 390, 867, 869, 32, 119, 875, 876, 119, 855, 857, 30, 119] (by decide +kernel) (by decide +kernel)
theorem ka_X11_sinksBy : cd_X11_sinksBy.1.all (fun e => mm_okB mm_mth mm_nest (yX11_sinksBy, cX11_sinksBy, 2, (some .int)) e) = true := by decide +kernel
theorem kb_X11_sinksBy : GoodIn lw_tbl (cd_X11_sinksBy.1.flatMap (fun e => mm_wdE mm_mth yX11_sinksBy.cls e)) := goodIn_r _ [871, 873, 33, 119, 389, 734, 683, 684, 122, 390, 818, 559, 133] (by decide +kernel) (by decide +kernel)
theorem ka_X11_sunk : cd_X11_sunk.1.all (fun e => mm_okB mm_mth mm_nest (yX11_sunk, cX11_sunk, 2, (some .int)) e) = true := by decide +kernel
theorem kb_X11_sunk : GoodIn lw_tbl (cd_X11_sunk.1.flatMap (fun e => mm_wdE mm_mth yX11_sunk.cls e)) := goodIn_r _ [818, 559, 133] (by decide +kernel) (by decide +kernel)
theorem ka_X11_fallIfFlat : cd_X11_fallIfFlat.1.all (fun e => mm_okB mm_mth mm_nest (yX11_fallIfFlat, cX11_fallIfFlat, 1, none) e) = true := by decide +kernel
theorem kb_X11_fallIfFlat : GoodIn lw_tbl (cd_X11_fallIfFlat.1.flatMap (fun e => mm_wdE mm_mth yX11_fallIfFlat.cls e)) := goodIn_r _ [390, 390, 390, 390] (by decide +kernel) (by decide +kernel)
theorem ka_X11_passDay : cd_X11_passDay.1.all (fun e => mm_okB mm_mth mm_nest (yX11_passDay, cX11_passDay, 1, none) e) = true := by decide +kernel
theorem kb_X11_passDay : GoodIn lw_tbl (cd_X11_passDay.1.flatMap (fun e => mm_wdE mm_mth yX11_passDay.cls e)) := goodIn_r _ [390, 390, 871, 873, 33, 119, 817, 714, 133, 390, 390, 817, 714, 133, 392, 390, 390, 390, 390, 902, 903, 904, 127, 390, 390, 912, 678, 679, 125] (by decide +kernel) (by decide +kernel)
theorem ka_X11_passDrawnDay : cd_X11_passDrawnDay.1.all (fun e => mm_okB mm_mth mm_nest (yX11_passDrawnDay, cX11_passDrawnDay, 6, none) e) = true := by decide +kernel
theorem kb_X11_passDrawnDay : GoodIn lw_tbl (cd_X11_passDrawnDay.1.flatMap (fun e => mm_wdE mm_mth yX11_passDrawnDay.cls e)) := goodIn_r _ [397, 389, 694, 586, 587, 122, 929, 930, 931, 130, 397, 929, 930, 931, 130, 760, 762, 19, 119, 817, 714, 133, 775, 777, 20, 119, 389, 694, 586, 587, 122, 397, 929, 930, 931, 130, 835, 837, 27, 119, 839, 841, 28, 119, 397, 929, 930, 931, 130, 403, 851, 853, 29, 119, 898, 900, 34, 119] (by decide +kernel) (by decide +kernel)
theorem ka_X11_refuse : cd_X11_refuse.1.all (fun e => mm_okB mm_mth mm_nest (yX11_refuse, cX11_refuse, 2, (some .int)) e) = true := by decide +kernel
theorem kb_X11_refuse : GoodIn lw_tbl (cd_X11_refuse.1.flatMap (fun e => mm_wdE mm_mth yX11_refuse.cls e)) := goodIn_r _ [398, 743, 569, 119, 398] (by decide +kernel) (by decide +kernel)
theorem ka_X11_strokes : cd_X11_strokes.1.all (fun e => mm_okB mm_mth mm_nest (yX11_strokes, cX11_strokes, 3, (some .int)) e) = true := by decide +kernel
theorem kb_X11_strokes : GoodIn lw_tbl (cd_X11_strokes.1.flatMap (fun e => mm_wdE mm_mth yX11_strokes.cls e)) := goodIn_r _ [739, 741, 17, 119, 756, 758, 18, 119, 743, 569, 119, 756, 758, 18, 119, 760, 762, 19, 119, 756, 758, 18, 119, 391, 390, 764, 765, 766, 126, 775, 777, 20, 119, 390] (by decide +kernel) (by decide +kernel)
theorem ka_X11_fold : cd_X11_fold.1.all (fun e => mm_okB mm_mth mm_nest (yX11_fold, cX11_fold, 2, (some .int)) e) = true := by decide +kernel
theorem kb_X11_fold : GoodIn lw_tbl (cd_X11_fold.1.flatMap (fun e => mm_wdE mm_mth yX11_fold.cls e)) := goodIn_r _ [827, 829, 25, 119, 756, 758, 18, 119, 831, 833, 26, 119, 756, 758, 18, 119, 835, 837, 27, 119, 756, 758, 18, 119, 391, 390, 764, 765, 766, 126, 839, 841, 28, 119, 390] (by decide +kernel) (by decide +kernel)
theorem ka_X11_sugar : cd_X11_sugar.1.all (fun e => mm_okB mm_mth mm_nest (yX11_sugar, cX11_sugar, 1, (some .int)) e) = true := by decide +kernel
theorem kb_X11_sugar : GoodIn lw_tbl (cd_X11_sugar.1.flatMap (fun e => mm_wdE mm_mth yX11_sugar.cls e)) := goodIn_r _ [401, 756, 758, 18, 119, 390, 756, 758, 18, 119, 390, 756, 758, 18, 119, 391, 390, 764, 765, 766, 126, 390, 390, 390] (by decide +kernel) (by decide +kernel)
theorem ka_X11_door : cd_X11_door.1.all (fun e => mm_okB mm_mth mm_nest (yX11_door, cX11_door, 1, (some .int)) e) = true := by decide +kernel
theorem kb_X11_door : GoodIn lw_tbl (cd_X11_door.1.flatMap (fun e => mm_wdE mm_mth yX11_door.cls e)) := goodIn_r _ [401, 756, 758, 18, 119, 391, 390, 764, 765, 766, 126, 851, 853, 29, 119, 390] (by decide +kernel) (by decide +kernel)
theorem ka_X11_hours : cd_X11_hours.1.all (fun e => mm_okB mm_mth mm_nest (yX11_hours, cX11_hours, 3, (some .int)) e) = true := by decide +kernel
theorem kb_X11_hours : GoodIn lw_tbl (cd_X11_hours.1.flatMap (fun e => mm_wdE mm_mth yX11_hours.cls e)) := goodIn_r _ [401, 756, 758, 18, 119, 743, 569, 119, 756, 758, 18, 119, 391, 390, 764, 765, 766, 126, 863, 865, 31, 119, 390] (by decide +kernel) (by decide +kernel)
theorem ka_X11_practise : cd_X11_practise.1.all (fun e => mm_okB mm_mth mm_nest (yX11_practise, cX11_practise, 2, (some .int)) e) = true := by decide +kernel
theorem kb_X11_practise : GoodIn lw_tbl (cd_X11_practise.1.flatMap (fun e => mm_wdE mm_mth yX11_practise.cls e)) := goodIn_r _ [739, 741, 17, 119, 756, 758, 18, 119, 390, 744, 745, 746, 125, 756, 758, 18, 119, 390, 756, 758, 18, 119, 391, 390, 764, 765, 766, 126, 390, 390, 882, 883, 884, 125, 390, 744, 745, 746, 125] (by decide +kernel) (by decide +kernel)
theorem ka_X11_yolk : cd_X11_yolk.1.all (fun e => mm_okB mm_mth mm_nest (yX11_yolk, cX11_yolk, 1, (some .int)) e) = true := by decide +kernel
theorem kb_X11_yolk : GoodIn lw_tbl (cd_X11_yolk.1.flatMap (fun e => mm_wdE mm_mth yX11_yolk.cls e)) := goodIn_r _ [401, 756, 758, 18, 119, 390, 756, 758, 18, 119, 390, 756, 758, 18, 119, 391, 390, 764, 765, 766, 126, 390, 390, 390] (by decide +kernel) (by decide +kernel)
theorem ka_X11_give : cd_X11_give.1.all (fun e => mm_okB mm_mth mm_nest (yX11_give, cX11_give, 2, (some .int)) e) = true := by decide +kernel
theorem kb_X11_give : GoodIn lw_tbl (cd_X11_give.1.flatMap (fun e => mm_wdE mm_mth yX11_give.cls e)) := goodIn_r _ [401, 756, 758, 18, 119, 743, 569, 119, 390, 756, 758, 18, 119, 391, 390, 764, 765, 766, 126, 390, 390] (by decide +kernel) (by decide +kernel)
theorem ka_X11_days : cd_X11_days.1.all (fun e => mm_okB mm_mth mm_nest (yX11_days, cX11_days, 3, (some .int)) e) = true := by decide +kernel
theorem kb_X11_days : GoodIn lw_tbl (cd_X11_days.1.flatMap (fun e => mm_wdE mm_mth yX11_days.cls e)) := goodIn_r _ [401, 756, 758, 18, 119, 743, 569, 119, 756, 758, 18, 119, 390, 756, 758, 18, 119, 391, 390, 764, 765, 766, 126, 898, 900, 34, 119, 390] (by decide +kernel) (by decide +kernel)
theorem ka_X11_draught : cd_X11_draught.1.all (fun e => mm_okB mm_mth mm_nest (yX11_draught, cX11_draught, 2, (some .boolean)) e) = true := by decide +kernel
theorem kb_X11_draught : GoodIn lw_tbl (cd_X11_draught.1.flatMap (fun e => mm_wdE mm_mth yX11_draught.cls e)) := goodIn_r _ [743, 569, 119, 403, 403] (by decide +kernel) (by decide +kernel)
theorem ka_X11_years : cd_X11_years.1.all (fun e => mm_okB mm_mth mm_nest (yX11_years, cX11_years, 5, (some .int)) e) = true := by decide +kernel
theorem kb_X11_years : GoodIn lw_tbl (cd_X11_years.1.flatMap (fun e => mm_wdE mm_mth yX11_years.cls e)) := goodIn_r _ [401, 743, 569, 119, 390, 397, 921, 922, 923, 130, 391, 390, 764, 765, 766, 126, 925, 927, 35, 119, 390] (by decide +kernel) (by decide +kernel)
theorem ka_X11_status : cd_X11_status.1.all (fun e => mm_okB mm_mth mm_nest (yX11_status, cX11_status, 2, (some .int)) e) = true := by decide +kernel
theorem kb_X11_status : GoodIn lw_tbl (cd_X11_status.1.flatMap (fun e => mm_wdE mm_mth yX11_status.cls e)) := goodIn_r _ [398, 743, 569, 119, 398] (by decide +kernel) (by decide +kernel)
theorem ka_X11_undo : cd_X11_undo.1.all (fun e => mm_okB mm_mth mm_nest (yX11_undo, cX11_undo, 1, (some .int)) e) = true := by decide +kernel
theorem kb_X11_undo : GoodIn lw_tbl (cd_X11_undo.1.flatMap (fun e => mm_wdE mm_mth yX11_undo.cls e)) := goodIn_r _ [391, 390, 943, 944, 945, 126, 391, 947, 948, 949, 126] (by decide +kernel) (by decide +kernel)
theorem ka_X11_log : cd_X11_log.1.all (fun e => mm_okB mm_mth mm_nest (yX11_log, cX11_log, 3, (some .int)) e) = true := by decide +kernel
theorem kb_X11_log : GoodIn lw_tbl (cd_X11_log.1.flatMap (fun e => mm_wdE mm_mth yX11_log.cls e)) := goodIn_r _ [955, 957, 36, 119, 743, 569, 119, 743, 569, 119, 392, 390, 959, 960, 961, 127] (by decide +kernel) (by decide +kernel)
theorem ka_X11_logSize : cd_X11_logSize.1.all (fun e => mm_okB mm_mth mm_nest (yX11_logSize, cX11_logSize, 1, (some .int)) e) = true := by decide +kernel
theorem kb_X11_logSize : GoodIn lw_tbl (cd_X11_logSize.1.flatMap (fun e => mm_wdE mm_mth yX11_logSize.cls e)) := goodIn_r _ [390, 817, 714, 133] (by decide +kernel) (by decide +kernel)
theorem ka_X11_behind : cd_X11_behind.1.all (fun e => mm_okB mm_mth mm_nest (yX11_behind, cX11_behind, 4, (some .int)) e) = true := by decide +kernel
theorem kb_X11_behind : GoodIn lw_tbl (cd_X11_behind.1.flatMap (fun e => mm_wdE mm_mth yX11_behind.cls e)) := goodIn_r _ [739, 741, 17, 119, 743, 569, 119, 760, 762, 19, 119, 817, 714, 133, 390, 744, 745, 746, 125, 390, 390, 390, 967, 969, 37, 119] (by decide +kernel) (by decide +kernel)
theorem ka_X11_whiskedOften : cd_X11_whiskedOften.1.all (fun e => mm_okB mm_mth mm_nest (yX11_whiskedOften, cX11_whiskedOften, 8, (some .int)) e) = true := by decide +kernel
theorem kb_X11_whiskedOften : GoodIn lw_tbl (cd_X11_whiskedOften.1.flatMap (fun e => mm_wdE mm_mth yX11_whiskedOften.cls e)) := goodIn_r _ [779, 781, 21, 119] (by decide +kernel) (by decide +kernel)
theorem ka_X11_soonest : cd_X11_soonest.1.all (fun e => mm_okB mm_mth mm_nest (yX11_soonest, cX11_soonest, 3, (some .int)) e) = true := by decide +kernel
theorem kb_X11_soonest : GoodIn lw_tbl (cd_X11_soonest.1.flatMap (fun e => mm_wdE mm_mth yX11_soonest.cls e)) := goodIn_r _ [739, 741, 17, 119, 975, 976, 119, 978, 980, 38, 119] (by decide +kernel) (by decide +kernel)
theorem ka_X11_soonestOf : cd_X11_soonestOf.1.all (fun e => mm_okB mm_mth mm_nest (yX11_soonestOf, cX11_soonestOf, 7, (some .int)) e) = true := by decide +kernel
theorem kb_X11_soonestOf : GoodIn lw_tbl (cd_X11_soonestOf.1.flatMap (fun e => mm_wdE mm_mth yX11_soonestOf.cls e)) := goodIn_r _ [390, 744, 745, 746, 125, 760, 762, 19, 119, 390, 390, 390, 779, 781, 21, 119] (by decide +kernel) (by decide +kernel)
theorem ka_X11_stop : cd_X11_stop.1.all (fun e => mm_okB mm_mth mm_nest (yX11_stop, cX11_stop, 9, (some .int)) e) = true := by decide +kernel
theorem kb_X11_stop : GoodIn lw_tbl (cd_X11_stop.1.flatMap (fun e => mm_wdE mm_mth yX11_stop.cls e)) := goodIn_r _ [739, 741, 17, 119, 743, 569, 119, 390, 744, 745, 746, 125, 760, 762, 19, 119, 390, 390, 390, 779, 781, 21, 119] (by decide +kernel) (by decide +kernel)
theorem ka_X11_best : cd_X11_best.1.all (fun e => mm_okB mm_mth mm_nest (yX11_best, cX11_best, 6, (some .int)) e) = true := by decide +kernel
theorem kb_X11_best : GoodIn lw_tbl (cd_X11_best.1.flatMap (fun e => mm_wdE mm_mth yX11_best.cls e)) := goodIn_r _ [401, 975, 976, 119, 389, 694, 586, 587, 122, 978, 980, 38, 119] (by decide +kernel) (by decide +kernel)
theorem ka_X11_byTurns : cd_X11_byTurns.1.all (fun e => mm_okB mm_mth mm_nest (yX11_byTurns, cX11_byTurns, 11, (some .int)) e) = true := by decide +kernel
theorem kb_X11_byTurns : GoodIn lw_tbl (cd_X11_byTurns.1.flatMap (fun e => mm_wdE mm_mth yX11_byTurns.cls e)) := goodIn_r _ [994, 996, 39, 119, 975, 976, 119, 760, 762, 19, 119, 760, 762, 19, 119, 390, 390, 744, 745, 746, 125, 390, 390, 779, 781, 21, 119] (by decide +kernel) (by decide +kernel)
theorem ka_X11_row : cd_X11_row.1.all (fun e => mm_okB mm_mth mm_nest (yX11_row, cX11_row, 3, (some .int)) e) = true := by decide +kernel
theorem kb_X11_row : GoodIn lw_tbl (cd_X11_row.1.flatMap (fun e => mm_wdE mm_mth yX11_row.cls e)) := goodIn_r _ [401, 743, 569, 119, 396, 1002, 1003, 1004, 129, 396, 1044, 1022, 1023, 129, 396, 1045, 1035, 1036, 129, 396, 1046, 1026, 1027, 129] (by decide +kernel) (by decide +kernel)
theorem ka_X11_lasts : cd_X11_lasts.1.all (fun e => mm_okB mm_mth mm_nest (yX11_lasts, cX11_lasts, 4, (some .int)) e) = true := by decide +kernel
theorem kb_X11_lasts : GoodIn lw_tbl (cd_X11_lasts.1.flatMap (fun e => mm_wdE mm_mth yX11_lasts.cls e)) := goodIn_r _ [401, 867, 869, 32, 119, 390, 875, 876, 119] (by decide +kernel) (by decide +kernel)
theorem ka_X11_holds : cd_X11_holds.1.all (fun e => mm_okB mm_mth mm_nest (yX11_holds, cX11_holds, 3, (some .int)) e) = true := by decide +kernel
theorem kb_X11_holds : GoodIn lw_tbl (cd_X11_holds.1.flatMap (fun e => mm_wdE mm_mth yX11_holds.cls e)) := goodIn_r _ [401, 743, 569, 119, 867, 869, 32, 119] (by decide +kernel) (by decide +kernel)
theorem ka_X11_seen : cd_X11_seen.1.all (fun e => mm_okB mm_mth mm_nest (yX11_seen, cX11_seen, 5, (some .int)) e) = true := by decide +kernel
theorem kb_X11_seen : GoodIn lw_tbl (cd_X11_seen.1.flatMap (fun e => mm_wdE mm_mth yX11_seen.cls e)) := goodIn_r _ [739, 741, 17, 119, 743, 569, 119, 975, 976, 119, 395, 1059, 1060, 1061, 128, 395, 1063, 1064, 1065, 128, 395, 1067, 1068, 1069, 128] (by decide +kernel) (by decide +kernel)
theorem ka_X11_fits : cd_X11_fits.1.all (fun e => mm_okB mm_mth mm_nest (yX11_fits, cX11_fits, 3, (some .int)) e) = true := by decide +kernel
theorem kb_X11_fits : GoodIn lw_tbl (cd_X11_fits.1.flatMap (fun e => mm_wdE mm_mth yX11_fits.cls e)) := goodIn_r _ [401, 1075, 1077, 43, 119, 1092, 1039, 139, 1093, 1094, 119] (by decide +kernel) (by decide +kernel)
