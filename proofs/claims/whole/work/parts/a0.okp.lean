/-! every method's code is right -/
theorem word_of_good {w : Cond} (h : (w.onTables && w.keeps) = true ∨ ∃ ty, w = .arrayClass ty) : goodWord w = true := by
  rcases h with h | ⟨ty, rfl⟩
  · cases w <;> first | rfl | exact h
  · rfl
theorem okp_of {cd : mmP} {y : mmT} (ha : cd.1.all (fun e => mm_okB mm_mth mm_nest y e) = true) (hb : GoodIn lw_tbl (cd.1.flatMap (fun e => mm_wdE mm_mth y.1.cls e))) : ∀ e ∈ cd.1, mm_okE mm_mth mm_nest y e := by
  intro e he
  have h := List.all_eq_true.mp ha e he
  unfold mm_okB at h
  simp only [Bool.and_eq_true, decide_eq_true_eq] at h
  refine ⟨h.1, h.2.1, fun z hz => ?_, h.2.2⟩
  obtain ⟨g1, g2⟩ := hb z (List.mem_flatMap.mpr ⟨e, he, hz⟩)
  exact List.mem_filter.mpr ⟨g1, word_of_good g2⟩
def OKZ : List mmP → List mmT → Prop
  | [], [] => True
  | a :: as, b :: bs => (∀ e ∈ a.1, mm_okE mm_mth mm_nest b e) ∧ OKZ as bs
  | _, _ => False
theorem OKZ_at : ∀ (as : List mmP) (bs : List mmT) (i : Nat) (q : mmP), OKZ as bs → as[i]? = some q → ∃ y, bs[i]? = some y ∧ ∀ e ∈ q.1, mm_okE mm_mth mm_nest y e
  | [], [], i, q, _, h => by cases h
  | [], _ :: _, _, _, h, _ => h.elim
  | _ :: _, [], _, _, h, _ => h.elim
  | a :: as, b :: bs, 0, q, ⟨h1, _⟩, h => by cases h; exact ⟨b, rfl, h1⟩
  | a :: as, b :: bs, i + 1, q, ⟨_, h2⟩, h => OKZ_at as bs i q h2 h
set_option maxRecDepth 20000 in
theorem okz_294 : OKZ (mm_prog.drop 294) (mm_mth.drop 294) := And.intro (okp_of ka_X12_ahead kb_X12_ahead) (And.intro (okp_of ka_X12_image kb_X12_image) (And.intro (okp_of ka_X12_back kb_X12_back) (And.intro (okp_of ka_X12_count kb_X12_count) (And.intro (okp_of ka_J6_numberOfTrailingZeros_0f7a4 kb_J6_numberOfTrailingZeros_0f7a4) (And.intro (okp_of ka_J6_bitCount_0f7a4 kb_J6_bitCount_0f7a4) (And.intro (okp_of ka_J9_floorMod_7cf53 kb_J9_floorMod_7cf53) (And.intro (okp_of ka_J9_abs_0f7a4 kb_J9_abs_0f7a4) (And.intro (okp_of ka_J9_max_7cf53 kb_J9_max_7cf53) (And.intro (okp_of ka_J9_max_f86c9 kb_J9_max_f86c9) (And.intro (okp_of ka_J9_min_7cf53 kb_J9_min_7cf53) (And.intro (okp_of ka_J9_min_f86c9 kb_J9_min_f86c9) (And.intro (okp_of ka_J7_fill_53178 kb_J7_fill_53178) (And.intro (okp_of ka_J7_copyOf_59c91 kb_J7_copyOf_59c91) (trivial))))))))))))))
set_option maxRecDepth 20000 in
theorem okz_280 : OKZ (mm_prog.drop 280) (mm_mth.drop 280) := And.intro (okp_of ka_X12_probe kb_X12_probe) (And.intro (okp_of ka_X12_gameOf kb_X12_gameOf) (And.intro (okp_of ka_X12_areTwo kb_X12_areTwo) (And.intro (okp_of ka_X12_game kb_X12_game) (And.intro (okp_of ka_X12_isRest kb_X12_isRest) (And.intro (okp_of ka_X12_rests kb_X12_rests) (And.intro (okp_of ka_X12_oddsFrom kb_X12_oddsFrom) (And.intro (okp_of ka_X12_odds kb_X12_odds) (And.intro (okp_of ka_X12_shares kb_X12_shares) (And.intro (okp_of ka_X12_topMinister kb_X12_topMinister) (And.intro (okp_of ka_X12_topCook kb_X12_topCook) (And.intro (okp_of ka_X12_could kb_X12_could) (And.intro (okp_of ka_X12_doors kb_X12_doors) (And.intro (okp_of ka_X12_most kb_X12_most) (okz_294))))))))))))))
set_option maxRecDepth 20000 in
theorem okz_266 : OKZ (mm_prog.drop 266) (mm_mth.drop 266) := And.intro (okp_of ka_X12_soonest kb_X12_soonest) (And.intro (okp_of ka_X12_stop kb_X12_stop) (And.intro (okp_of ka_X12_best kb_X12_best) (And.intro (okp_of ka_X12_nextOf kb_X12_nextOf) (And.intro (okp_of ka_X12_byTurns kb_X12_byTurns) (And.intro (okp_of ka_X12_tryRow kb_X12_tryRow) (And.intro (okp_of ka_X12_row kb_X12_row) (And.intro (okp_of ka_X12_lasts kb_X12_lasts) (And.intro (okp_of ka_X12_isUp kb_X12_isUp) (And.intro (okp_of ka_X12_holds kb_X12_holds) (And.intro (okp_of ka_X12_seen kb_X12_seen) (And.intro (okp_of ka_X12_morning kb_X12_morning) (And.intro (okp_of ka_X12_isYolk kb_X12_isYolk) (And.intro (okp_of ka_X12_fits kb_X12_fits) (okz_280))))))))))))))
set_option maxRecDepth 20000 in
theorem okz_252 : OKZ (mm_prog.drop 252) (mm_mth.drop 252) := And.intro (okp_of ka_X12_areDays kb_X12_areDays) (And.intro (okp_of ka_X12_days kb_X12_days) (And.intro (okp_of ka_X12_draught kb_X12_draught) (And.intro (okp_of ka_X12_draw kb_X12_draw) (And.intro (okp_of ka_X12_drawDay kb_X12_drawDay) (And.intro (okp_of ka_X12_years kb_X12_years) (And.intro (okp_of ka_X12_status kb_X12_status) (And.intro (okp_of ka_X12_undo kb_X12_undo) (And.intro (okp_of ka_X12_log kb_X12_log) (And.intro (okp_of ka_X12_putAside kb_X12_putAside) (And.intro (okp_of ka_X12_takeBack kb_X12_takeBack) (And.intro (okp_of ka_X12_standsBehind kb_X12_standsBehind) (And.intro (okp_of ka_X12_behind kb_X12_behind) (And.intro (okp_of ka_X12_soonestOf kb_X12_soonestOf) (okz_266))))))))))))))
set_option maxRecDepth 20000 in
theorem okz_238 : OKZ (mm_prog.drop 238) (mm_mth.drop 238) := And.intro (okp_of ka_X12_cook kb_X12_cook) (And.intro (okp_of ka_X12_minister kb_X12_minister) (And.intro (okp_of ka_X12_law kb_X12_law) (And.intro (okp_of ka_X12_keep kb_X12_keep) (And.intro (okp_of ka_X12_isRefused kb_X12_isRefused) (And.intro (okp_of ka_X12_strokes kb_X12_strokes) (And.intro (okp_of ka_X12_fold kb_X12_fold) (And.intro (okp_of ka_X12_sugar kb_X12_sugar) (And.intro (okp_of ka_X12_door kb_X12_door) (And.intro (okp_of ka_X12_hours kb_X12_hours) (And.intro (okp_of ka_X12_practise kb_X12_practise) (And.intro (okp_of ka_X12_yolk kb_X12_yolk) (And.intro (okp_of ka_X12_give kb_X12_give) (And.intro (okp_of ka_X12_passDay kb_X12_passDay) (okz_252))))))))))))))
set_option maxRecDepth 20000 in
theorem okz_224 : OKZ (mm_prog.drop 224) (mm_mth.drop 224) := And.intro (okp_of ka_X12_leftOf kb_X12_leftOf) (And.intro (okp_of ka_X12_held kb_X12_held) (And.intro (okp_of ka_X12_strokeBy kb_X12_strokeBy) (And.intro (okp_of ka_X12_strokeNow kb_X12_strokeNow) (And.intro (okp_of ka_X12_strokesNow kb_X12_strokesNow) (And.intro (okp_of ka_X12_weightIn kb_X12_weightIn) (And.intro (okp_of ka_X12_worthIn kb_X12_worthIn) (And.intro (okp_of ka_X12_sinks kb_X12_sinks) (And.intro (okp_of ka_X12_mayFall kb_X12_mayFall) (And.intro (okp_of ka_X12_doorNow kb_X12_doorNow) (And.intro (okp_of ka_X12_hourNow kb_X12_hourNow) (And.intro (okp_of ka_X12_canFold kb_X12_canFold) (And.intro (okp_of ka_X12_foldNow kb_X12_foldNow) (And.intro (okp_of ka_X12_rule kb_X12_rule) (okz_238))))))))))))))
set_option maxRecDepth 20000 in
theorem okz_210 : OKZ (mm_prog.drop 210) (mm_mth.drop 210) := And.intro (okp_of ka_X12_workOut kb_X12_workOut) (And.intro (okp_of ka_X12_worthOf kb_X12_worthOf) (And.intro (okp_of ka_X12_number kb_X12_number) (And.intro (okp_of ka_X12_itemOf kb_X12_itemOf) (And.intro (okp_of ka_X12_highest kb_X12_highest) (And.intro (okp_of ka_X12_usual kb_X12_usual) (And.intro (okp_of ka_X12_items kb_X12_items) (And.intro (okp_of ka_X12_readDuchy kb_X12_readDuchy) (And.intro (okp_of ka_X12_fault kb_X12_fault) (And.intro (okp_of ka_X12_takeDuchy kb_X12_takeDuchy) (And.intro (okp_of ka_X12_text kb_X12_text) (And.intro (okp_of ka_X12_of kb_X12_of) (And.intro (okp_of ka_X12_isCook kb_X12_isCook) (And.intro (okp_of ka_X12_isMinister kb_X12_isMinister) (okz_224))))))))))))))
set_option maxRecDepth 20000 in
theorem okz_196 : OKZ (mm_prog.drop 196) (mm_mth.drop 196) := And.intro (okp_of ka_X12_term kb_X12_term) (And.intro (okp_of ka_X12_sum kb_X12_sum) (And.intro (okp_of ka_X12_isSign kb_X12_isSign) (And.intro (okp_of ka_X12_compare kb_X12_compare) (And.intro (okp_of ka_X12_unit kb_X12_unit) (And.intro (okp_of ka_X12_goOnAnd kb_X12_goOnAnd) (And.intro (okp_of ka_X12_goOnOr kb_X12_goOnOr) (And.intro (okp_of ka_X12_condition kb_X12_condition) (And.intro (okp_of ka_X12_clause kb_X12_clause) (And.intro (okp_of ka_X12_open kb_X12_open) (And.intro (okp_of ka_X12_atEnd kb_X12_atEnd) (And.intro (okp_of ka_X12_readLaw kb_X12_readLaw) (And.intro (okp_of ka_X12_bounded kb_X12_bounded) (And.intro (okp_of ka_X12_worked kb_X12_worked) (okz_210))))))))))))))
set_option maxRecDepth 20000 in
theorem okz_182 : OKZ (mm_prog.drop 182) (mm_mth.drop 182) := And.intro (okp_of ka_X12_thrown kb_X12_thrown) (And.intro (okp_of ka_X12_byteOf kb_X12_byteOf) (And.intro (okp_of ka_X12_feed kb_X12_feed) (And.intro (okp_of ka_X12_end kb_X12_end) (And.intro (okp_of ka_X12_here kb_X12_here) (And.intro (okp_of ka_X12_look kb_X12_look) (And.intro (okp_of ka_X12_bad kb_X12_bad) (And.intro (okp_of ka_X12_isDigit kb_X12_isDigit) (And.intro (okp_of ka_X12_put kb_X12_put) (And.intro (okp_of ka_X12_letterOf kb_X12_letterOf) (And.intro (okp_of ka_X12_opens kb_X12_opens) (And.intro (okp_of ka_X12_closes kb_X12_closes) (And.intro (okp_of ka_X12_plainNumber kb_X12_plainNumber) (And.intro (okp_of ka_X12_atom kb_X12_atom) (okz_196))))))))))))))
set_option maxRecDepth 20000 in
theorem okz_168 : OKZ (mm_prog.drop 168) (mm_mth.drop 168) := And.intro (okp_of ka_X11_firstMinisterByMost kb_X11_firstMinisterByMost) (And.intro (okp_of ka_X11_strongestCook kb_X11_strongestCook) (And.intro (okp_of ka_X11_freshestCook kb_X11_freshestCook) (And.intro (okp_of ka_X11_doorsToFlat kb_X11_doorsToFlat) (And.intro (okp_of ka_X11_ahead kb_X11_ahead) (And.intro (okp_of ka_X11_image kb_X11_image) (And.intro (okp_of ka_X11_back kb_X11_back) (And.intro (okp_of ka_X11_count kb_X11_count) (And.intro (okp_of ka_X11_isWithin kb_X11_isWithin) (And.intro (okp_of ka_X11_isStand kb_X11_isStand) (And.intro (okp_of ka_X11_within kb_X11_within) (And.intro (okp_of ka_X12_in kb_X12_in) (And.intro (okp_of ka_X12_has kb_X12_has) (And.intro (okp_of ka_X12_init kb_X12_init) (okz_182))))))))))))))
set_option maxRecDepth 20000 in
theorem okz_154 : OKZ (mm_prog.drop 154) (mm_mth.drop 154) := And.intro (okp_of ka_X11_placeOfBit kb_X11_placeOfBit) (And.intro (okp_of ka_X11_fittingYolks kb_X11_fittingYolks) (And.intro (okp_of ka_X11_isFitting kb_X11_isFitting) (And.intro (okp_of ka_X11_probe kb_X11_probe) (And.intro (okp_of ka_X11_whiskAllYolks kb_X11_whiskAllYolks) (And.intro (okp_of ka_X11_game kb_X11_game) (And.intro (okp_of ka_X11_rests kb_X11_rests) (And.intro (okp_of ka_X11_playAll kb_X11_playAll) (And.intro (okp_of ka_X11_quarterOf kb_X11_quarterOf) (And.intro (okp_of ka_X11_isRest kb_X11_isRest) (And.intro (okp_of ka_X11_odds kb_X11_odds) (And.intro (okp_of ka_X11_partsAt kb_X11_partsAt) (And.intro (okp_of ka_X11_shares kb_X11_shares) (And.intro (okp_of ka_X11_most kb_X11_most) (okz_168))))))))))))))
set_option maxRecDepth 20000 in
theorem okz_140 : OKZ (mm_prog.drop 140) (mm_mth.drop 140) := And.intro (okp_of ka_X11_log kb_X11_log) (And.intro (okp_of ka_X11_logSize kb_X11_logSize) (And.intro (okp_of ka_X11_behind kb_X11_behind) (And.intro (okp_of ka_X11_whiskedOften kb_X11_whiskedOften) (And.intro (okp_of ka_X11_soonest kb_X11_soonest) (And.intro (okp_of ka_X11_soonestOf kb_X11_soonestOf) (And.intro (okp_of ka_X11_stop kb_X11_stop) (And.intro (okp_of ka_X11_best kb_X11_best) (And.intro (okp_of ka_X11_byTurns kb_X11_byTurns) (And.intro (okp_of ka_X11_row kb_X11_row) (And.intro (okp_of ka_X11_lasts kb_X11_lasts) (And.intro (okp_of ka_X11_holds kb_X11_holds) (And.intro (okp_of ka_X11_seen kb_X11_seen) (And.intro (okp_of ka_X11_fits kb_X11_fits) (okz_154))))))))))))))
set_option maxRecDepth 20000 in
theorem okz_126 : OKZ (mm_prog.drop 126) (mm_mth.drop 126) := And.intro (okp_of ka_X11_refuse kb_X11_refuse) (And.intro (okp_of ka_X11_strokes kb_X11_strokes) (And.intro (okp_of ka_X11_fold kb_X11_fold) (And.intro (okp_of ka_X11_sugar kb_X11_sugar) (And.intro (okp_of ka_X11_door kb_X11_door) (And.intro (okp_of ka_X11_hours kb_X11_hours) (And.intro (okp_of ka_X11_practise kb_X11_practise) (And.intro (okp_of ka_X11_yolk kb_X11_yolk) (And.intro (okp_of ka_X11_give kb_X11_give) (And.intro (okp_of ka_X11_days kb_X11_days) (And.intro (okp_of ka_X11_draught kb_X11_draught) (And.intro (okp_of ka_X11_years kb_X11_years) (And.intro (okp_of ka_X11_status kb_X11_status) (And.intro (okp_of ka_X11_undo kb_X11_undo) (okz_140))))))))))))))
set_option maxRecDepth 20000 in
theorem okz_112 : OKZ (mm_prog.drop 112) (mm_mth.drop 112) := And.intro (okp_of ka_X11_sumInside kb_X11_sumInside) (And.intro (okp_of ka_X11_strokesLeft kb_X11_strokesLeft) (And.intro (okp_of ka_X11_canFold kb_X11_canFold) (And.intro (okp_of ka_X11_couldFold kb_X11_couldFold) (And.intro (okp_of ka_X11_whisked kb_X11_whisked) (And.intro (okp_of ka_X11_whisk kb_X11_whisk) (And.intro (okp_of ka_X11_foldIn kb_X11_foldIn) (And.intro (okp_of ka_X11_openDoor kb_X11_openDoor) (And.intro (okp_of ka_X11_passHour kb_X11_passHour) (And.intro (okp_of ka_X11_sinksBy kb_X11_sinksBy) (And.intro (okp_of ka_X11_sunk kb_X11_sunk) (And.intro (okp_of ka_X11_fallIfFlat kb_X11_fallIfFlat) (And.intro (okp_of ka_X11_passDay kb_X11_passDay) (And.intro (okp_of ka_X11_passDrawnDay kb_X11_passDrawnDay) (okz_126))))))))))))))
set_option maxRecDepth 20000 in
theorem okz_98 : OKZ (mm_prog.drop 98) (mm_mth.drop 98) := And.intro (okp_of ka_X11_init kb_X11_init) (And.intro (okp_of ka_X11_feed kb_X11_feed) (And.intro (okp_of ka_X11_end kb_X11_end) (And.intro (okp_of ka_X11_fault kb_X11_fault) (And.intro (okp_of ka_X11_text kb_X11_text) (And.intro (okp_of ka_X11_beginDuchy kb_X11_beginDuchy) (And.intro (okp_of ka_X11_law kb_X11_law) (And.intro (okp_of ka_X11_rule kb_X11_rule) (And.intro (okp_of ka_X11_cook kb_X11_cook) (And.intro (okp_of ka_X11_minister kb_X11_minister) (And.intro (okp_of ka_X11_hasCook kb_X11_hasCook) (And.intro (okp_of ka_X11_hasTwoCooks kb_X11_hasTwoCooks) (And.intro (okp_of ka_X11_hasMinister kb_X11_hasMinister) (And.intro (okp_of ka_X11_isInside kb_X11_isInside) (okz_112))))))))))))))
set_option maxRecDepth 20000 in
theorem okz_84 : OKZ (mm_prog.drop 84) (mm_mth.drop 84) := And.intro (okp_of ka_X10_clear kb_X10_clear) (And.intro (okp_of ka_X10_copyFrom kb_X10_copyFrom) (And.intro (okp_of ka_X10_howMany kb_X10_howMany) (And.intro (okp_of ka_X10_isFull kb_X10_isFull) (And.intro (okp_of ka_X10_kindBy kb_X10_kindBy) (And.intro (okp_of ka_X10_itemBy kb_X10_itemBy) (And.intro (okp_of ka_X10_isAllowed kb_X10_isAllowed) (And.intro (okp_of ka_X10_add kb_X10_add) (And.intro (okp_of ka_X10_fillWithout kb_X10_fillWithout) (And.intro (okp_of ka_X10_set kb_X10_set) (And.intro (okp_of ka_X10_item kb_X10_item) (And.intro (okp_of ka_X10_isKind kb_X10_isKind) (And.intro (okp_of ka_X10_lineOf kb_X10_lineOf) (And.intro (okp_of ka_X10_placeOf kb_X10_placeOf) (okz_98))))))))))))))
set_option maxRecDepth 20000 in
theorem okz_70 : OKZ (mm_prog.drop 70) (mm_mth.drop 70) := And.intro (okp_of ka_X9_size kb_X9_size) (And.intro (okp_of ka_X9_signsIn kb_X9_signsIn) (And.intro (okp_of ka_X9_put kb_X9_put) (And.intro (okp_of ka_X9_cutBehind kb_X9_cutBehind) (And.intro (okp_of ka_X9_rewind kb_X9_rewind) (And.intro (okp_of ka_X9_at kb_X9_at) (And.intro (okp_of ka_X9_look kb_X9_look) (And.intro (okp_of ka_X9_step kb_X9_step) (And.intro (okp_of ka_X9_stepBack kb_X9_stepBack) (And.intro (okp_of ka_X9_take kb_X9_take) (And.intro (okp_of ka_X9_number kb_X9_number) (And.intro (okp_of ka_X9_isDigitHere kb_X9_isDigitHere) (And.intro (okp_of ka_X9_isDigit kb_X9_isDigit) (And.intro (okp_of ka_X10_init kb_X10_init) (okz_84))))))))))))))
set_option maxRecDepth 20000 in
theorem okz_56 : OKZ (mm_prog.drop 56) (mm_mth.drop 56) := And.intro (okp_of ka_X7_leastRowOf kb_X7_leastRowOf) (And.intro (okp_of ka_X7_valueOf kb_X7_valueOf) (And.intro (okp_of ka_X7_standsBehind kb_X7_standsBehind) (And.intro (okp_of ka_X7_leastRowTo kb_X7_leastRowTo) (And.intro (okp_of ka_X7_canEnd kb_X7_canEnd) (And.intro (okp_of ka_X7_isBetter kb_X7_isBetter) (And.intro (okp_of ka_X8_init kb_X8_init) (And.intro (okp_of ka_X8_size kb_X8_size) (And.intro (okp_of ka_X8_isFull kb_X8_isFull) (And.intro (okp_of ka_X8_clear kb_X8_clear) (And.intro (okp_of ka_X8_add kb_X8_add) (And.intro (okp_of ka_X8_furthestOf kb_X8_furthestOf) (And.intro (okp_of ka_X8_isAgainst kb_X8_isAgainst) (And.intro (okp_of ka_X9_init kb_X9_init) (okz_70))))))))))))))
set_option maxRecDepth 20000 in
theorem okz_42 : OKZ (mm_prog.drop 42) (mm_mth.drop 42) := And.intro (okp_of ka_X4_apply kb_X4_apply) (And.intro (okp_of ka_X4_joined kb_X4_joined) (And.intro (okp_of ka_X5_init kb_X5_init) (And.intro (okp_of ka_X5_write kb_X5_write) (And.intro (okp_of ka_X5_read kb_X5_read) (And.intro (okp_of ka_X5_copyFrom kb_X5_copyFrom) (And.intro (okp_of ka_X5_placeOf kb_X5_placeOf) (And.intro (okp_of ka_X6_init kb_X6_init) (And.intro (okp_of ka_X6_size kb_X6_size) (And.intro (okp_of ka_X6_clear kb_X6_clear) (And.intro (okp_of ka_X6_keep kb_X6_keep) (And.intro (okp_of ka_X6_takeBack kb_X6_takeBack) (And.intro (okp_of ka_X7_init kb_X7_init) (And.intro (okp_of ka_X7_bestSet kb_X7_bestSet) (okz_56))))))))))))))
set_option maxRecDepth 20000 in
theorem okz_28 : OKZ (mm_prog.drop 28) (mm_mth.drop 28) := And.intro (okp_of ka_X3_isComparison kb_X3_isComparison) (And.intro (okp_of ka_X3_isSumNext kb_X3_isSumNext) (And.intro (okp_of ka_X3_isTermNext kb_X3_isTermNext) (And.intro (okp_of ka_X3_isAtomNext kb_X3_isAtomNext) (And.intro (okp_of ka_X3_isLetter kb_X3_isLetter) (And.intro (okp_of ka_X4_init kb_X4_init) (And.intro (okp_of ka_X4_size kb_X4_size) (And.intro (okp_of ka_X4_isFull kb_X4_isFull) (And.intro (okp_of ka_X4_chosen kb_X4_chosen) (And.intro (okp_of ka_X4_add kb_X4_add) (And.intro (okp_of ka_X4_choose kb_X4_choose) (And.intro (okp_of ka_X4_worth kb_X4_worth) (And.intro (okp_of ka_X4_push kb_X4_push) (And.intro (okp_of ka_X4_pop kb_X4_pop) (okz_42))))))))))))))
set_option maxRecDepth 20000 in
theorem okz_14 : OKZ (mm_prog.drop 14) (mm_mth.drop 14) := And.intro (okp_of ka_X2_isClauseNext kb_X2_isClauseNext) (And.intro (okp_of ka_X2_isValueNext kb_X2_isValueNext) (And.intro (okp_of ka_X3_init kb_X3_init) (And.intro (okp_of ka_X3_code kb_X3_code) (And.intro (okp_of ka_X3_write kb_X3_write) (And.intro (okp_of ka_X3_firstFault kb_X3_firstFault) (And.intro (okp_of ka_X3_isClauseNext kb_X3_isClauseNext) (And.intro (okp_of ka_X3_isSumBehindCondition kb_X3_isSumBehindCondition) (And.intro (okp_of ka_X3_isConditionNext kb_X3_isConditionNext) (And.intro (okp_of ka_X3_areTruthsNext kb_X3_areTruthsNext) (And.intro (okp_of ka_X3_isTruthNext kb_X3_isTruthNext) (And.intro (okp_of ka_X3_areUnitsNext kb_X3_areUnitsNext) (And.intro (okp_of ka_X3_isUnitNext kb_X3_isUnitNext) (And.intro (okp_of ka_X3_isComparedNext kb_X3_isComparedNext) (okz_28))))))))))))))
set_option maxRecDepth 20000 in
theorem okz_0 : OKZ (mm_prog.drop 0) (mm_mth.drop 0) := And.intro (okp_of ka_X0_init kb_X0_init) (And.intro (okp_of ka_X0_begin kb_X0_begin) (And.intro (okp_of ka_X0_beginMorning kb_X0_beginMorning) (And.intro (okp_of ka_X0_copyFrom kb_X0_copyFrom) (And.intro (okp_of ka_X0_tiredOf kb_X0_tiredOf) (And.intro (okp_of ka_X0_wristOf kb_X0_wristOf) (And.intro (okp_of ka_X0_tire kb_X0_tire) (And.intro (okp_of ka_X0_strengthen kb_X0_strengthen) (And.intro (okp_of ka_X1_init kb_X1_init) (And.intro (okp_of ka_X1_begin kb_X1_begin) (And.intro (okp_of ka_X1_below kb_X1_below) (And.intro (okp_of ka_X2_init kb_X2_init) (And.intro (okp_of ka_X2_read kb_X2_read) (And.intro (okp_of ka_X2_firstFault kb_X2_firstFault) (okz_14))))))))))))))
theorem okz_plain : (mm_prog.zip mm_mth).all (fun p => plainFor p.2.1 && (decide (p.1.2.2 = p.2.2.2.1) && match p.1.1 with | e :: _ => Nat.beq e.1 0 | [] => false)) = true := by decide +kernel
theorem mm_okF_ok : mm_okF mm_mth mm_nest mm_prog := by
  intro i q hq
  obtain ⟨y, hy, he⟩ := OKZ_at mm_prog mm_mth i q okz_0 hq
  have hz : (q, y) ∈ mm_prog.zip mm_mth := by
    apply List.mem_of_getElem? (i := i)
    rw [List.getElem?_zip_eq_some]
    exact ⟨hq, hy⟩
  have h := List.all_eq_true.mp okz_plain (q, y) hz
  simp only [Bool.and_eq_true, decide_eq_true_eq] at h
  refine ⟨y, hy, h.1, h.2.1, ?_, he⟩
  have h3 := h.2.2
  cases hc : q.1 with
  | nil => rw [hc] at h3; cases h3
  | cons e r => rw [hc] at h3; exact ⟨e, r, rfl, Nat.eq_of_beq_eq_true h3⟩
theorem kc_0 : GoodIn lw_tbl (((mm_mth.drop 0).take 8).map (fun y => Cond.code y.1 y.2.1 y.2.2.1 y.2.2.2)) := goodIn_r _ [255, 676, 680, 772, 751, 747, 822, 885] (by decide +kernel) (by decide +kernel)
theorem kc_8 : GoodIn lw_tbl (((mm_mth.drop 8).take 8).map (fun y => Cond.code y.1 y.2.1 y.2.2.1 y.2.2.2)) := goodIn_r _ [379, 924, 932, 169, 665, 473, 515, 546] (by decide +kernel) (by decide +kernel)
theorem kc_16 : GoodIn lw_tbl (((mm_mth.drop 16).take 8).map (fun y => Cond.code y.1 y.2.1 y.2.2.1 y.2.2.2)) := goodIn_r _ [195, 702, 629, 592, 597, 652, 603, 648] (by decide +kernel) (by decide +kernel)
theorem kc_24 : GoodIn lw_tbl (((mm_mth.drop 24).take 8).map (fun y => Cond.code y.1 y.2.1 y.2.2.1 y.2.2.2)) := goodIn_r _ [607, 644, 611, 637, 640, 615, 619, 623] (by decide +kernel) (by decide +kernel)
theorem kc_32 : GoodIn lw_tbl (((mm_mth.drop 32).take 8).map (fun y => Cond.code y.1 y.2.1 y.2.2.1 y.2.2.2)) := goodIn_r _ [632, 211, 1191, 698, 786, 720, 729, 790] (by decide +kernel) (by decide +kernel)
theorem kc_40 : GoodIn lw_tbl (((mm_mth.drop 40).take 8).map (fun y => Cond.code y.1 y.2.1 y.2.2.1 y.2.2.2)) := goodIn_r _ [798, 794, 810, 813, 324, 905, 962, 1178] (by decide +kernel) (by decide +kernel)
theorem kc_48 : GoodIn lw_tbl (((mm_mth.drop 48).take 8).map (fun y => Cond.code y.1 y.2.1 y.2.2.1 y.2.2.2)) := goodIn_r _ [908, 306, 950, 689, 767, 946, 357, 1005] (by decide +kernel) (by decide +kernel)
theorem kc_56 : GoodIn lw_tbl (((mm_mth.drop 56).take 8).map (fun y => Cond.code y.1 y.2.1 y.2.2.1 y.2.2.2)) := goodIn_r _ [1024, 1037, 1028, 1016, 1020, 1033, 334, 1070] (by decide +kernel) (by decide +kernel)
theorem kc_64 : GoodIn lw_tbl (((mm_mth.drop 64).take 8).map (fun y => Cond.code y.1 y.2.1 y.2.2.1 y.2.2.2)) := goodIn_r _ [1062, 693, 1066, 1086, 1091, 152, 453, 449] (by decide +kernel) (by decide +kernel)
theorem kc_72 : GoodIn lw_tbl (((mm_mth.drop 72).take 8).map (fun y => Cond.code y.1 y.2.1 y.2.2.1 y.2.2.2)) := goodIn_r _ [457, 465, 511, 579, 519, 532, 574, 583] (by decide +kernel) (by decide +kernel)
theorem kc_80 : GoodIn lw_tbl (((mm_mth.drop 80).take 8).map (fun y => Cond.code y.1 y.2.1 y.2.2.1 y.2.2.2)) := goodIn_r _ [553, 557, 549, 175, 477, 669, 588, 528] (by decide +kernel) (by decide +kernel)
theorem kc_88 : GoodIn lw_tbl (((mm_mth.drop 88).take 8).map (fun y => Cond.code y.1 y.2.1 y.2.2.1 y.2.2.2)) := goodIn_r _ [522, 540, 563, 536, 484, 500, 685, 487] (by decide +kernel) (by decide +kernel)
theorem kc_96 : GoodIn lw_tbl (((mm_mth.drop 96).take 8).map (fun y => Cond.code y.1 y.2.1 y.2.2.1 y.2.2.2)) := goodIn_r _ [492, 503, 144, 446, 461, 469, 657, 661] (by decide +kernel) (by decide +kernel)
theorem kc_104 : GoodIn lw_tbl (((mm_mth.drop 104).take 8).map (fun y => Cond.code y.1 y.2.1 y.2.2.1 y.2.2.2)) := goodIn_r _ [725, 733, 738, 1199, 742, 997, 830, 834] (by decide +kernel) (by decide +kernel)
theorem kc_112 : GoodIn lw_tbl (((mm_mth.drop 112).take 8).map (fun y => Cond.code y.1 y.2.1 y.2.2.1 y.2.2.2)) := goodIn_r _ [874, 763, 838, 1161, 782, 778, 842, 854] (by decide +kernel) (by decide +kernel)
theorem kc_120 : GoodIn lw_tbl (((mm_mth.drop 120).take 8).map (fun y => Cond.code y.1 y.2.1 y.2.2.1 y.2.2.2)) := goodIn_r _ [866, 870, 877, 858, 901, 928, 759, 755] (by decide +kernel) (by decide +kernel)
theorem kc_128 : GoodIn lw_tbl (((mm_mth.drop 128).take 8).map (fun y => Cond.code y.1 y.2.1 y.2.2.1 y.2.2.2)) := goodIn_r _ [826, 846, 850, 862, 881, 889, 893, 897] (by decide +kernel) (by decide +kernel)
theorem kc_136 : GoodIn lw_tbl (((mm_mth.drop 136).take 8).map (fun y => Cond.code y.1 y.2.1 y.2.2.1 y.2.2.2)) := goodIn_r _ [916, 920, 938, 942, 954, 958, 966, 970] (by decide +kernel) (by decide +kernel)
theorem kc_144 : GoodIn lw_tbl (((mm_mth.drop 144).take 8).map (fun y => Cond.code y.1 y.2.1 y.2.2.1 y.2.2.2)) := goodIn_r _ [974, 981, 985, 989, 993, 1001, 1050, 1054] (by decide +kernel) (by decide +kernel)
theorem kc_152 : GoodIn lw_tbl (((mm_mth.drop 152).take 8).map (fun y => Cond.code y.1 y.2.1 y.2.2.1 y.2.2.2)) := goodIn_r _ [1058, 1074, 1095, 1078, 1082, 1099, 1104, 1111] (by decide +kernel) (by decide +kernel)
theorem kc_160 : GoodIn lw_tbl (((mm_mth.drop 160).take 8).map (fun y => Cond.code y.1 y.2.1 y.2.2.1 y.2.2.2)) := goodIn_r _ [1116, 1120, 1128, 1124, 1132, 1136, 1141, 1145] (by decide +kernel) (by decide +kernel)
theorem kc_168 : GoodIn lw_tbl (((mm_mth.drop 168).take 8).map (fun y => Cond.code y.1 y.2.1 y.2.2.1 y.2.2.2)) := goodIn_r _ [1149, 1153, 1157, 1165, 1169, 1173, 1183, 1187] (by decide +kernel) (by decide +kernel)
theorem kc_176 : GoodIn lw_tbl (((mm_mth.drop 176).take 8).map (fun y => Cond.code y.1 y.2.1 y.2.2.1 y.2.2.2)) := goodIn_r _ [570, 977, 816, 1471, 1454, 1270, 1414, 1421] (by decide +kernel) (by decide +kernel)
theorem kc_184 : GoodIn lw_tbl (((mm_mth.drop 184).take 8).map (fun y => Cond.code y.1 y.2.1 y.2.2.1 y.2.2.2)) := goodIn_r _ [1418, 1425, 1444, 1440, 1468, 1464, 1499, 1522] (by decide +kernel) (by decide +kernel)
theorem kc_192 : GoodIn lw_tbl (((mm_mth.drop 192).take 8).map (fun y => Cond.code y.1 y.2.1 y.2.2.1 y.2.2.2)) := goodIn_r _ [1495, 1503, 1519, 1515, 1511, 1507, 1529, 1526] (by decide +kernel) (by decide +kernel)
theorem kc_200 : GoodIn lw_tbl (((mm_mth.drop 200).take 8).map (fun y => Cond.code y.1 y.2.1 y.2.2.1 y.2.2.2)) := goodIn_r _ [1491, 1533, 1537, 1487, 1483, 1479, 1541, 1475] (by decide +kernel) (by decide +kernel)
theorem kc_208 : GoodIn lw_tbl (((mm_mth.drop 208).take 8).map (fun y => Cond.code y.1 y.2.1 y.2.2.1 y.2.2.2)) := goodIn_r _ [1619, 1616, 1613, 1609, 1461, 1451, 1457, 1436] (by decide +kernel) (by decide +kernel)
theorem kc_216 : GoodIn lw_tbl (((mm_mth.drop 216).take 8).map (fun y => Cond.code y.1 y.2.1 y.2.2.1 y.2.2.2)) := goodIn_r _ [1448, 1433, 1429, 1549, 1545, 1573, 1561, 1569] (by decide +kernel) (by decide +kernel)
theorem kc_224 : GoodIn lw_tbl (((mm_mth.drop 224).take 8).map (fun y => Cond.code y.1 y.2.1 y.2.2.1 y.2.2.2)) := goodIn_r _ [1585, 1628, 1605, 1601, 1597, 1672, 1700, 1668] (by decide +kernel) (by decide +kernel)
theorem kc_232 : GoodIn lw_tbl (((mm_mth.drop 232).take 8).map (fun y => Cond.code y.1 y.2.1 y.2.2.1 y.2.2.2)) := goodIn_r _ [1656, 1652, 1664, 1636, 1640, 1553, 1557, 1565] (by decide +kernel) (by decide +kernel)
theorem kc_240 : GoodIn lw_tbl (((mm_mth.drop 240).take 8).map (fun y => Cond.code y.1 y.2.1 y.2.2.1 y.2.2.2)) := goodIn_r _ [1577, 1593, 1589, 1581, 1632, 1644, 1648, 1660] (by decide +kernel) (by decide +kernel)
theorem kc_248 : GoodIn lw_tbl (((mm_mth.drop 248).take 8).map (fun y => Cond.code y.1 y.2.1 y.2.2.1 y.2.2.2)) := goodIn_r _ [1676, 1680, 1684, 1696, 1692, 1688, 1704, 1716] (by decide +kernel) (by decide +kernel)
theorem kc_256 : GoodIn lw_tbl (((mm_mth.drop 256).take 8).map (fun y => Cond.code y.1 y.2.1 y.2.2.1 y.2.2.2)) := goodIn_r _ [1712, 1708, 1722, 1726, 1730, 1742, 1746, 1738] (by decide +kernel) (by decide +kernel)
theorem kc_264 : GoodIn lw_tbl (((mm_mth.drop 264).take 8).map (fun y => Cond.code y.1 y.2.1 y.2.2.1 y.2.2.2)) := goodIn_r _ [1734, 1754, 1750, 1758, 1762, 1774, 1766, 1782] (by decide +kernel) (by decide +kernel)
theorem kc_272 : GoodIn lw_tbl (((mm_mth.drop 272).take 8).map (fun y => Cond.code y.1 y.2.1 y.2.2.1 y.2.2.2)) := goodIn_r _ [1778, 1786, 1794, 1790, 1798, 1810, 1806, 1802] (by decide +kernel) (by decide +kernel)
theorem kc_280 : GoodIn lw_tbl (((mm_mth.drop 280).take 8).map (fun y => Cond.code y.1 y.2.1 y.2.2.1 y.2.2.2)) := goodIn_r _ [1814, 1825, 1770, 1820, 1833, 1829, 1842, 1837] (by decide +kernel) (by decide +kernel)
theorem kc_288 : GoodIn lw_tbl (((mm_mth.drop 288).take 8).map (fun y => Cond.code y.1 y.2.1 y.2.2.1 y.2.2.2)) := goodIn_r _ [1847, 1855, 1859, 1863, 1867, 1851, 1871, 1875] (by decide +kernel) (by decide +kernel)
theorem kc_296 : GoodIn lw_tbl (((mm_mth.drop 296).take 8).map (fun y => Cond.code y.1 y.2.1 y.2.2.1 y.2.2.2)) := goodIn_r _ [1879, 1883, 1010, 1040, 911, 1107, 560, 806] (by decide +kernel) (by decide +kernel)
theorem kc_304 : GoodIn lw_tbl (((mm_mth.drop 304).take 8).map (fun y => Cond.code y.1 y.2.1 y.2.2.1 y.2.2.2)) := goodIn_r _ [715, 803, 480, 705] (by decide +kernel) (by decide +kernel)
theorem kc_at {a k : Nat} (h : GoodIn lw_tbl (((mm_mth.drop a).take k).map (fun y => Cond.code y.1 y.2.1 y.2.2.1 y.2.2.2))) {j : Nat} {y : mmT} (h1 : a ≤ j) (h2 : j < a + k) (hy : mm_mth[j]? = some y) : Cond.code y.1 y.2.1 y.2.2.1 y.2.2.2 ∈ mm_gw := by
  have hm : y ∈ (mm_mth.drop a).take k := by
    apply List.mem_of_getElem? (i := j - a)
    rw [List.getElem?_take, if_pos (by omega), List.getElem?_drop, show a + (j - a) = j by omega]
    exact hy
  obtain ⟨g1, g2⟩ := h _ (List.mem_map.mpr ⟨y, hm, rfl⟩)
  exact List.mem_filter.mpr ⟨g1, word_of_good g2⟩
theorem mm_mth_41 : ∀ y ∈ mm_mth, y.2.2.1 ≤ 41 := by decide +kernel
theorem mm_mth_len : mm_mth.length = 308 := by decide +kernel
theorem mm_code_ok : ∀ (j : Nat) (y : mmT), mm_mth[j]? = some y → Cond.code y.1 y.2.1 y.2.2.1 y.2.2.2 ∈ mm_gw ∧ y.2.2.1 ≤ 41 := by
  intro j y hy
  refine ⟨?_, mm_mth_41 y (List.mem_of_getElem? hy)⟩
  have hj : j < 308 := by
    have := (List.getElem?_eq_some_iff.mp hy).1
    rw [mm_mth_len] at this
    exact this
  by_cases h0 : j < 8
  · exact kc_at kc_0 (by omega) (by omega) hy
  by_cases h8 : j < 16
  · exact kc_at kc_8 (by omega) (by omega) hy
  by_cases h16 : j < 24
  · exact kc_at kc_16 (by omega) (by omega) hy
  by_cases h24 : j < 32
  · exact kc_at kc_24 (by omega) (by omega) hy
  by_cases h32 : j < 40
  · exact kc_at kc_32 (by omega) (by omega) hy
  by_cases h40 : j < 48
  · exact kc_at kc_40 (by omega) (by omega) hy
  by_cases h48 : j < 56
  · exact kc_at kc_48 (by omega) (by omega) hy
  by_cases h56 : j < 64
  · exact kc_at kc_56 (by omega) (by omega) hy
  by_cases h64 : j < 72
  · exact kc_at kc_64 (by omega) (by omega) hy
  by_cases h72 : j < 80
  · exact kc_at kc_72 (by omega) (by omega) hy
  by_cases h80 : j < 88
  · exact kc_at kc_80 (by omega) (by omega) hy
  by_cases h88 : j < 96
  · exact kc_at kc_88 (by omega) (by omega) hy
  by_cases h96 : j < 104
  · exact kc_at kc_96 (by omega) (by omega) hy
  by_cases h104 : j < 112
  · exact kc_at kc_104 (by omega) (by omega) hy
  by_cases h112 : j < 120
  · exact kc_at kc_112 (by omega) (by omega) hy
  by_cases h120 : j < 128
  · exact kc_at kc_120 (by omega) (by omega) hy
  by_cases h128 : j < 136
  · exact kc_at kc_128 (by omega) (by omega) hy
  by_cases h136 : j < 144
  · exact kc_at kc_136 (by omega) (by omega) hy
  by_cases h144 : j < 152
  · exact kc_at kc_144 (by omega) (by omega) hy
  by_cases h152 : j < 160
  · exact kc_at kc_152 (by omega) (by omega) hy
  by_cases h160 : j < 168
  · exact kc_at kc_160 (by omega) (by omega) hy
  by_cases h168 : j < 176
  · exact kc_at kc_168 (by omega) (by omega) hy
  by_cases h176 : j < 184
  · exact kc_at kc_176 (by omega) (by omega) hy
  by_cases h184 : j < 192
  · exact kc_at kc_184 (by omega) (by omega) hy
  by_cases h192 : j < 200
  · exact kc_at kc_192 (by omega) (by omega) hy
  by_cases h200 : j < 208
  · exact kc_at kc_200 (by omega) (by omega) hy
  by_cases h208 : j < 216
  · exact kc_at kc_208 (by omega) (by omega) hy
  by_cases h216 : j < 224
  · exact kc_at kc_216 (by omega) (by omega) hy
  by_cases h224 : j < 232
  · exact kc_at kc_224 (by omega) (by omega) hy
  by_cases h232 : j < 240
  · exact kc_at kc_232 (by omega) (by omega) hy
  by_cases h240 : j < 248
  · exact kc_at kc_240 (by omega) (by omega) hy
  by_cases h248 : j < 256
  · exact kc_at kc_248 (by omega) (by omega) hy
  by_cases h256 : j < 264
  · exact kc_at kc_256 (by omega) (by omega) hy
  by_cases h264 : j < 272
  · exact kc_at kc_264 (by omega) (by omega) hy
  by_cases h272 : j < 280
  · exact kc_at kc_272 (by omega) (by omega) hy
  by_cases h280 : j < 288
  · exact kc_at kc_280 (by omega) (by omega) hy
  by_cases h288 : j < 296
  · exact kc_at kc_288 (by omega) (by omega) hy
  by_cases h296 : j < 304
  · exact kc_at kc_296 (by omega) (by omega) hy
  exact kc_at kc_304 (by omega) (by omega) hy
theorem klay_0 : GoodIn lw_tbl (u_ws RX0 TX0 11) := goodIn_r _ [279, 281, 283, 285, 287, 289, 291, 293, 295, 297, 299] (by decide +kernel) (by decide +kernel)
theorem klay_1 : GoodIn lw_tbl (u_ws RX1 TX1 1) := goodIn_r _ [382] (by decide +kernel) (by decide +kernel)
theorem klay_2 : GoodIn lw_tbl (u_ws RX2 TX2 2) := goodIn_r _ [186, 188] (by decide +kernel) (by decide +kernel)
theorem klay_3 : GoodIn lw_tbl (u_ws RX3 TX3 3) := goodIn_r _ [200, 202, 204] (by decide +kernel) (by decide +kernel)
theorem klay_4 : GoodIn lw_tbl (u_ws RX4 TX4 11) := goodIn_r _ [226, 228, 230, 232, 234, 236, 238, 240, 242, 244, 246] (by decide +kernel) (by decide +kernel)
theorem klay_5 : GoodIn lw_tbl (u_ws RX5 TX5 1) := goodIn_r _ [327] (by decide +kernel) (by decide +kernel)
theorem klay_6 : GoodIn lw_tbl (u_ws RX6 TX6 3) := goodIn_r _ [313, 315, 317] (by decide +kernel) (by decide +kernel)
theorem klay_7 : GoodIn lw_tbl (u_ws RX7 TX7 5) := goodIn_r _ [364, 366, 368, 370, 372] (by decide +kernel) (by decide +kernel)
theorem klay_8 : GoodIn lw_tbl (u_ws RX8 TX8 5) := goodIn_r _ [341, 343, 345, 347, 349] (by decide +kernel) (by decide +kernel)
theorem klay_9 : GoodIn lw_tbl (u_ws RX9 TX9 3) := goodIn_r _ [157, 159, 161] (by decide +kernel) (by decide +kernel)
theorem klay_10 : GoodIn lw_tbl (u_ws RX10 TX10 2) := goodIn_r _ [179, 181] (by decide +kernel) (by decide +kernel)
theorem klay_11 : GoodIn lw_tbl (u_ws RX11 TX11 19) := goodIn_r _ [404, 406, 408, 410, 412, 414, 416, 418, 420, 422, 424, 426, 428, 430, 432, 434, 436, 438, 440] (by decide +kernel) (by decide +kernel)
theorem klay_12 : GoodIn lw_tbl (u_ws RX12 TX12 46) := goodIn_r _ [1318, 1320, 1322, 1324, 1326, 1328, 1330, 1332, 1334, 1336, 1338, 1340, 1342, 1344, 1346, 1348, 1350, 1352, 1354, 1356, 1358, 1360, 1362, 1364, 1366, 1368, 1370, 1372, 1374, 1376, 1378, 1380, 1382, 1384, 1386, 1388, 1390, 1392, 1394, 1396, 1398, 1400, 1402, 1404, 1406, 1408] (by decide +kernel) (by decide +kernel)
theorem klay_of {ws : List Cond} (h : GoodIn lw_tbl ws) : ∀ w ∈ ws, w ∈ mm_gw := fun w hw => List.mem_filter.mpr ⟨(h w hw).1, word_of_good (h w hw).2⟩
theorem mm_lay_ok : ∀ (ci : Nat) (q : vw_C), mm_cl[ci]? = some q → ∀ w ∈ u_ws q.1 q.2.1 q.2.2, w ∈ mm_gw := by
  intro ci q h
  have hci : ci < 13 := (List.getElem?_eq_some_iff.mp h).1
  rcases (show ci = 0 ∨ ci = 1 ∨ ci = 2 ∨ ci = 3 ∨ ci = 4 ∨ ci = 5 ∨ ci = 6 ∨ ci = 7 ∨ ci = 8 ∨ ci = 9 ∨ ci = 10 ∨ ci = 11 ∨ ci = 12 by omega) with rfl | rfl | rfl | rfl | rfl | rfl | rfl | rfl | rfl | rfl | rfl | rfl | rfl
  · cases h; exact klay_of klay_0
  · cases h; exact klay_of klay_1
  · cases h; exact klay_of klay_2
  · cases h; exact klay_of klay_3
  · cases h; exact klay_of klay_4
  · cases h; exact klay_of klay_5
  · cases h; exact klay_of klay_6
  · cases h; exact klay_of klay_7
  · cases h; exact klay_of klay_8
  · cases h; exact klay_of klay_9
  · cases h; exact klay_of klay_10
  · cases h; exact klay_of klay_11
  · cases h; exact klay_of klay_12
