/-! what is only read -/
section RD
variable {n : Nat} {xs : Nat → Int32} {N : Nat} {gv : Int32 → Int32 → Int32 → Int32 → Int32} {M M' M1 M2 : mmM} {nc nm k p z h : Nat} {bs rs : Nat → Nat → Int32} {Dk : Nat → Nat} {im : Bool}
theorem QQ.eq {d iX iM : Nat} {aX aM : List Value} {v : Int32} (e1 : mm_E n xs N d iX aX M = some (some (.int v), M)) (e2 : mm_E n xs N d iM aM M = some (some (.int v), M)) : QQ n xs N d M iX aX iM aM := ⟨v, M, M, e1, FR.rf, e2, FR.rf⟩
theorem CT.b15 (h : CT n xs N gv M nc nm) : mm_I M 77 15 = mm_I M 35 7 := h.2.1.2.2.2.2.2.2.2.1
theorem Q_rule (hC : CT n xs N gv M nc nm) (d : Nat) (x : Int32) : QQ n xs N (d + 60) M 105 [.ref 16, .int x] 237 [.ref 60, .int x] := by
  by_cases h0 : nm = 0
  · refine QQ.eq (v := -1) ?_ ?_
    · rw [u_X11_rule, if_pos (hC.X0 h0).1]
    · rw [u_X12_rule, if_pos (hC.X0 h0).2]
  cases hw : wi 0 x 3 with
  | false =>
    have ne : ∀ j : Nat, j ≤ 3 → ¬ x = nI j := fun j hj e => by
      subst e
      have : wi 0 (nI j) (nI 3) = true := by
        unfold wi
        rw [decide_eq_true (nI_pos' (by omega)), decide_eq_true (nI_le hj (by omega))]
        rfl
      rw [show nI 3 = (3 : Int32) from rfl, hw] at this
      cases this
    refine QQ.eq (v := -1) ?_ ?_
    · rw [u_X11_rule, if_neg (hC.X1 h0).1, if_neg (show ¬ x = (0 : Int32) from ne 0 (by omega)), if_neg (show ¬ x = (1 : Int32) from ne 1 (by omega)), if_neg (show ¬ x = (2 : Int32) from ne 2 (by omega)), if_neg (show ¬ x = (3 : Int32) from ne 3 (by omega))]
    · rw [u_X12_rule, if_neg (hC.X1 h0).2]
      (rw [E_in (d + 58) M x 0 3, ra_I]; simp only [Option.bind_some])
      rw [hw, if_pos (show mb false = 0 by decide)]
  | true =>
    obtain ⟨j, hj, rfl⟩ := wi_t (k := 3) (by decide) hw
    rcases (show j = 0 ∨ j = 1 ∨ j = 2 ∨ j = 3 by omega) with rfl | rfl | rfl | rfl

    · refine QQ.eq (v := mm_I M 33 0) ?_ ?_
      · rw [u_X11_rule, if_neg (hC.X1 h0).1, if_pos (show nI 0 = (0 : Int32) from rfl)]
        (rw [E_rule (d + 56) M 0 (by omega), ra_I]; simp only [Option.bind_some])
      · rw [u_X12_rule, if_neg (hC.X1 h0).2]
        (rw [E_in (d + 58) M (nI 0) 0 3, ra_I]; simp only [Option.bind_some])
        rw [hw, if_neg (show ¬ mb true = 0 by decide)]
        rw [if_neg (show ¬ nI 0 = (1 : Int32) by decide), if_neg (show ¬ nI 0 = (3 : Int32) by decide), mm_inb_nI (show 0 < 4 by omega) (by omega), cond_true, nI_clamp (by omega), hC.r74 (by omega)]
    · refine QQ.eq (v := mm_I M 35 4) ?_ ?_
      · rw [u_X11_rule, if_neg (hC.X1 h0).1, if_neg (show ¬ nI 1 = (0 : Int32) by decide), if_pos (show nI 1 = (1 : Int32) from rfl)]
      · rw [u_X12_rule, if_neg (hC.X1 h0).2]
        (rw [E_in (d + 58) M (nI 1) 0 3, ra_I]; simp only [Option.bind_some])
        rw [hw, if_neg (show ¬ mb true = 0 by decide)]
        rw [if_pos (show nI 1 = (1 : Int32) from rfl), hC.b12]
    · refine QQ.eq (v := mm_I M 33 2) ?_ ?_
      · rw [u_X11_rule, if_neg (hC.X1 h0).1, if_neg (show ¬ nI 2 = (0 : Int32) by decide), if_neg (show ¬ nI 2 = (1 : Int32) by decide), if_pos (show nI 2 = (2 : Int32) from rfl)]
        (rw [E_rule (d + 56) M 2 (by omega), ra_I]; simp only [Option.bind_some])
      · rw [u_X12_rule, if_neg (hC.X1 h0).2]
        (rw [E_in (d + 58) M (nI 2) 0 3, ra_I]; simp only [Option.bind_some])
        rw [hw, if_neg (show ¬ mb true = 0 by decide)]
        rw [if_neg (show ¬ nI 2 = (1 : Int32) by decide), if_neg (show ¬ nI 2 = (3 : Int32) by decide), mm_inb_nI (show 2 < 4 by omega) (by omega), cond_true, nI_clamp (by omega), hC.r74 (by omega)]
    · refine QQ.eq (v := mm_I M 35 5) ?_ ?_
      · rw [u_X11_rule, if_neg (hC.X1 h0).1, if_neg (show ¬ nI 3 = (0 : Int32) by decide), if_neg (show ¬ nI 3 = (1 : Int32) by decide), if_neg (show ¬ nI 3 = (2 : Int32) by decide), if_pos (show nI 3 = (3 : Int32) from rfl)]
      · rw [u_X12_rule, if_neg (hC.X1 h0).2]
        (rw [E_in (d + 58) M (nI 3) 0 3, ra_I]; simp only [Option.bind_some])
        rw [hw, if_neg (show ¬ mb true = 0 by decide)]
        rw [if_neg (show ¬ nI 3 = (1 : Int32) by decide), if_pos (show nI 3 = (3 : Int32) from rfl), hC.b13]
theorem Q_cook (hC : CT n xs N gv M nc nm) (d : Nat) (c x : Int32) : QQ n xs N (d + 60) M 106 [.ref 16, .int c, .int x] 238 [.ref 60, .int c, .int x] := by
  have h4 := hC.nc4
  cases hk : ck nc c with
  | false =>
    refine QQ.eq (v := -1) ?_ ?_
    · rw [u_X11_cook]
      (rw [E_hasCook (d + 56) hC.1 c, ra_I]; simp only [Option.bind_some])
      rw [hk, if_pos (show mb false = 0 by decide)]
    · rw [u_X12_cook]
      (rw [E_isCook (d + 57) hC.1 c, ra_I]; simp only [Option.bind_some])
      rw [hk, if_pos (show mb false = 0 by decide)]
  | true =>
    obtain ⟨c, hc, rfl⟩ := ck_t (by omega) hk
    cases hw : wi 0 x 2 with
    | false =>
      have ne : ∀ j : Nat, j ≤ 2 → ¬ x = nI j := fun j hj e => by
        subst e
        have : wi 0 (nI j) (nI 2) = true := by
          unfold wi
          rw [decide_eq_true (nI_pos' (by omega)), decide_eq_true (nI_le hj (by omega))]
          rfl
        rw [show nI 2 = (2 : Int32) from rfl, hw] at this
        cases this
      refine QQ.eq (v := -1) ?_ ?_
      · rw [u_X11_cook]
        (rw [E_hasCook (d + 56) hC.1 (nI c), ra_I]; simp only [Option.bind_some])
        rw [hk, if_neg (show ¬ mb true = 0 by decide), if_neg (show ¬ x = (0 : Int32) from ne 0 (by omega)), if_neg (show ¬ x = (1 : Int32) from ne 1 (by omega)), if_neg (show ¬ x = (2 : Int32) from ne 2 (by omega))]
      · rw [u_X12_cook]
        (rw [E_isCook (d + 57) hC.1 (nI c), ra_I]; simp only [Option.bind_some])
        rw [hk, if_neg (show ¬ mb true = 0 by decide)]
        (rw [E_in (d + 58) M x 0 2, ra_I]; simp only [Option.bind_some])
        rw [hw, if_pos (show mb false = 0 by decide)]
    | true =>
      have e0 : (0 : Int32) + nI c = nI c := by rw [Int32.zero_add]
      have e1 : (2 : Int32) * nI c + 1 = nI (2 * c + 1) := by rw [show (2 : Int32) = nI 2 from rfl, pk_mul, nI_1]
      have e4 : (4 : Int32) + nI c = nI (4 + c) := nI_add 4 c
      obtain ⟨j, hj, rfl⟩ := wi_t (k := 2) (by decide) hw
      rcases (show j = 0 ∨ j = 1 ∨ j = 2 by omega) with rfl | rfl | rfl
      · refine QQ.eq (v := mm_I M 37 c) ?_ ?_
        · rw [u_X11_cook]
          (rw [E_hasCook (d + 56) hC.1 (nI c), ra_I]; simp only [Option.bind_some])
          rw [hk, if_neg (show ¬ mb true = 0 by decide), if_pos (show nI 0 = (0 : Int32) from rfl)]
          (rw [E_wristOf (d + 58) M c (by omega), ra_I]; simp only [Option.bind_some])
        · rw [u_X12_cook]
          (rw [E_isCook (d + 57) hC.1 (nI c), ra_I]; simp only [Option.bind_some])
          rw [hk, if_neg (show ¬ mb true = 0 by decide)]
          (rw [E_in (d + 58) M (nI 0) 0 2, ra_I]; simp only [Option.bind_some])
          rw [hw, if_neg (show ¬ mb true = 0 by decide), if_pos (show nI 0 = (0 : Int32) from rfl), e0, mm_inb_nI (show c < 198 by omega) (by omega), cond_true, nI_clamp (by omega), (hC.cm hc).1]
      · refine QQ.eq (v := mm_I M 33 (4 + c * 2 + 1)) ?_ ?_
        · rw [u_X11_cook]
          (rw [E_hasCook (d + 56) hC.1 (nI c), ra_I]; simp only [Option.bind_some])
          rw [hk, if_neg (show ¬ mb true = 0 by decide), if_neg (show ¬ nI 1 = (0 : Int32) by decide), if_pos (show nI 1 = (1 : Int32) from rfl)]
          (rw [show mm_E n xs N (d + 59) 94 [.ref 32, .int 1, .int (nI c), .int 1] M = _ from E_cookI (d + 56) M c 1 (by omega) (by omega), ra_I]; simp only [Option.bind_some])
        · rw [u_X12_cook]
          (rw [E_isCook (d + 57) hC.1 (nI c), ra_I]; simp only [Option.bind_some])
          rw [hk, if_neg (show ¬ mb true = 0 by decide)]
          (rw [E_in (d + 58) M (nI 1) 0 2, ra_I]; simp only [Option.bind_some])
          rw [hw, if_neg (show ¬ mb true = 0 by decide), if_neg (show ¬ nI 1 = (0 : Int32) by decide), if_pos (show nI 1 = (1 : Int32) from rfl), e1, mm_inb_nI (show 2 * c + 1 < 8 by omega) (by omega), cond_true, nI_clamp (by omega), hC.c75 hc (by omega)]
      · refine QQ.eq (v := mm_I M 36 c) ?_ ?_
        · rw [u_X11_cook]
          (rw [E_hasCook (d + 56) hC.1 (nI c), ra_I]; simp only [Option.bind_some])
          rw [hk, if_neg (show ¬ mb true = 0 by decide), if_neg (show ¬ nI 2 = (0 : Int32) by decide), if_neg (show ¬ nI 2 = (1 : Int32) by decide), if_pos (show nI 2 = (2 : Int32) from rfl)]
          (rw [E_tiredOf (d + 58) M c (by omega), ra_I]; simp only [Option.bind_some])
        · rw [u_X12_cook]
          (rw [E_isCook (d + 57) hC.1 (nI c), ra_I]; simp only [Option.bind_some])
          rw [hk, if_neg (show ¬ mb true = 0 by decide)]
          (rw [E_in (d + 58) M (nI 2) 0 2, ra_I]; simp only [Option.bind_some])
          rw [hw, if_neg (show ¬ mb true = 0 by decide), if_neg (show ¬ nI 2 = (0 : Int32) by decide), if_neg (show ¬ nI 2 = (1 : Int32) by decide), e4, mm_inb_nI (show 4 + c < 198 by omega) (by omega), cond_true, nI_clamp (by omega), (hC.cm hc).2]
theorem Q_status (h13 : ∀ i, i < 5 → mm_I M 57 i = mm_I M 78 i) (d : Nat) (x : Int32) : QQ n xs N (d + 60) M 138 [.ref 16, .int x] 258 [.ref 60, .int x] := by
  have e5 : Int32.ofNat 5 - 1 = (4 : Int32) := by decide
  cases hw : wi 0 x 4 with
  | false =>
    refine QQ.eq (v := -1) ?_ ?_
    · rw [u_X11_status, e5]
      (rw [E_isWithin (d + 58) M 0 x 4, ra_I]; simp only [Option.bind_some])
      rw [hw, if_pos (show mb false = 0 by decide)]
    · rw [u_X12_status]
      (rw [E_in (d + 58) M x 0 4, ra_I]; simp only [Option.bind_some])
      rw [hw, if_pos (show mb false = 0 by decide)]
  | true =>
    obtain ⟨j, hj, rfl⟩ := wi_t (k := 4) (by decide) hw
    refine QQ.eq (v := mm_I M 57 j) ?_ ?_
    · rw [u_X11_status, e5]
      (rw [E_isWithin (d + 58) M 0 (nI j) 4, ra_I]; simp only [Option.bind_some])
      rw [hw, if_neg (show ¬ mb true = 0 by decide), mm_inb_nI (show j < 5 by omega) (by omega), cond_true, nI_clamp (by omega)]
    · rw [u_X12_status]
      (rw [E_in (d + 58) M (nI j) 0 4, ra_I]; simp only [Option.bind_some])
      rw [hw, if_neg (show ¬ mb true = 0 by decide), mm_inb_nI (show j < 5 by omega) (by omega), cond_true, nI_clamp (by omega), h13 j (by omega)]
theorem E_logSize (d : Nat) {D : Nat} (hD : D < 1000) (h8 : mm_I M 35 8 = nI D) : mm_E n xs N (d + 2) 141 [.ref 16] M = some (some (.int (nI (min 60 D))), M) := by
  rw [u_X11_logSize, h8]
  (rw [E_min d M 60 (nI D), ra_I]; simp only [Option.bind_some])
  rw [show (60 : Int32) = nI 60 from rfl, i_min_nI (by omega) (by omega)]
theorem Q_log (hL : RLf (mm_I M 41) (mm_I M 77) (Dk 0)) (h8 : mm_I M 35 8 = nI (Dk 0)) (hD : Dk 0 ≤ 999) (d : Nat) (x y : Int32) : QQ n xs N (d + 60) M 140 [.ref 16, .int x, .int y] 260 [.ref 60, .int x, .int y] := by
  have eX : mm_E n xs N (d + 59) 141 [.ref 16] M = some (some (.int (nI (min 60 (Dk 0)))), M) := E_logSize (d + 57) (by omega) h8
  have h17 := hL.1
  cases hk : wi 0 x (nI (min 60 (Dk 0)) - 1) with
  | false =>
    refine QQ.eq (v := -1) ?_ ?_
    · rw [u_X11_log]
      (rw [eX, ra_I]; simp only [Option.bind_some])
      (rw [E_isWithin (d + 58) M 0 x _, ra_I]; simp only [Option.bind_some])
      rw [hk, if_pos (show mb false = 0 by decide)]
    · rw [u_X12_log, h17]
      (rw [E_in (d + 58) M x 0 _, ra_I]; simp only [Option.bind_some])
      rw [hk, if_pos (show mb false = 0 by decide)]
  | true =>
    cases hw : wi 0 y 2 with
    | false =>
      refine QQ.eq (v := -1) ?_ ?_
      · rw [u_X11_log]
        (rw [eX, ra_I]; simp only [Option.bind_some])
        (rw [E_isWithin (d + 58) M 0 x _, ra_I]; simp only [Option.bind_some])
        rw [hk, if_neg (show ¬ mb true = 0 by decide)]
        (rw [E_isWithin (d + 58) M 0 y 2, ra_I]; simp only [Option.bind_some])
        rw [hw, if_pos (show mb false = 0 by decide)]
      · rw [u_X12_log, h17]
        (rw [E_in (d + 58) M x 0 _, ra_I]; simp only [Option.bind_some])
        rw [hk, if_neg (show ¬ mb true = 0 by decide)]
        (rw [E_in (d + 58) M y 0 2, ra_I]; simp only [Option.bind_some])
        rw [hw, if_pos (show mb false = 0 by decide)]
    | true =>
      obtain ⟨i, hi, rfl⟩ := ck_t (n := min 60 (Dk 0)) (c := x) (by omega) hk
      obtain ⟨w, hw2, rfl⟩ := wi_t (k := 2) (by decide) hw
      have e1 : nI (Dk 0) - 1 - nI i = nI (Dk 0 - 1 - i) := by rw [nI_m1 (by omega), pk_sub (by omega)]
      have e2 : (18 : Int32) + 3 * (nI (min 60 (Dk 0)) - 1 - nI i) + nI w = nI (18 + 3 * (min 60 (Dk 0) - 1 - i) + w) := by
        rw [nI_m1 (by omega), pk_sub (by omega), show (18 : Int32) = nI 18 from rfl, show (3 : Int32) = nI 3 from rfl, pk_mul, nI_add, nI_add]
      have e3 : nI ((Dk 0 - 1 - i) % 100 * 3) + nI w = nI ((Dk 0 - 1 - i) % 100 * 3 + w) := nI_add _ _
      refine QQ.eq (v := mm_I M 41 ((Dk 0 - 1 - i) % 100 * 3 + w)) ?_ ?_
      · rw [u_X11_log]
        (rw [eX, ra_I]; simp only [Option.bind_some])
        (rw [E_isWithin (d + 58) M 0 (nI i) _, ra_I]; simp only [Option.bind_some])
        rw [hk, if_neg (show ¬ mb true = 0 by decide)]
        (rw [E_isWithin (d + 58) M 0 (nI w) 2, ra_I]; simp only [Option.bind_some])
        rw [hw, if_neg (show ¬ mb true = 0 by decide), h8, e1, u_X5_read_40, E_pl5 (d + 56) M (D := Dk 0 - 1 - i) (by omega), ra_I, Option.bind_some]
        dsimp only
        rw [e3, if_neg (nI_pos (by omega)), if_neg (show ¬ Int32.ofNat 300 ≤ nI ((Dk 0 - 1 - i) % 100 * 3 + w) from nI_ge (b := 300) (by omega) (by omega)), mm_inb_nI (show (Dk 0 - 1 - i) % 100 * 3 + w < 300 by omega) (by omega), cond_true, nI_clamp (by omega), ra_I, Option.bind_some]
      · rw [u_X12_log, h17]
        (rw [E_in (d + 58) M (nI i) 0 _, ra_I]; simp only [Option.bind_some])
        rw [show wi 0 (nI i) (nI (min 60 (Dk 0)) - 1) = true from hk, if_neg (show ¬ mb true = 0 by decide)]
        (rw [E_in (d + 58) M (nI w) 0 2, ra_I]; simp only [Option.bind_some])
        rw [hw, if_neg (show ¬ mb true = 0 by decide), h17, e2, mm_inb_nI (show 18 + 3 * (min 60 (Dk 0) - 1 - i) + w < 198 by omega) (by omega), cond_true, nI_clamp (by omega), hL.2 i w hi (by omega)]
theorem Q_count (hI : IV n xs N gv M nc nm k p z h bs rs Dk im) (g1 : mm_I M 60 13 = mm_I M 25 1) (g2 : mm_I M 60 2 = mm_I M 17 1) (g3 : mm_I M 60 29 = mm_I M 25 2) (d : Nat) (x : Int32) : QQ n xs N (d + 60) M 175 [.ref 16, .int x] 297 [.ref 60, .int x] := by
  have hC := hI.ct
  have h8 : mm_I M 35 8 = nI (Dk 0) := hI.2.2.2.2.2.2.1
  have hD := hI.2.2.2.2.2.2.2.1.1
  by_cases x0 : x = 0
  · refine QQ.eq (v := nI nm) ?_ ?_
    · rw [u_X11_count, if_pos x0]
      (rw [(show mm_E n xs N (d + 59) _ _ M = some (some (.int (nI nm)), M) from hM2 (d + 57) hC.1), ra_I]; simp only [Option.bind_some])
    · rw [u_X12_count, if_pos x0, hC.1.2.2.2.2.2.2.2.1]
  by_cases x1 : x = 1
  · refine QQ.eq (v := nI nc) ?_ ?_
    · rw [u_X11_count, if_neg x0, if_pos x1]
      (rw [(show mm_E n xs N (d + 59) _ _ M = some (some (.int (nI nc)), M) from hM1 (d + 57) hC.1), ra_I]; simp only [Option.bind_some])
    · rw [u_X12_count, if_neg x0, if_pos x1, hC.1.2.2.2.2.2.2.1]
  by_cases x2 : x = 2
  · refine QQ.eq (v := mm_I M 25 1) ?_ ?_
    · rw [u_X11_count, if_neg x0, if_neg x1, if_pos x2]
      (rw [(show mm_E n xs N (d + 59) _ _ M = some (some (.int (mm_I M 25 1)), M) from u_X4_size n xs N (d + 58) M), ra_I]; simp only [Option.bind_some])
    · rw [u_X12_count, if_neg x0, if_neg x1, if_pos x2, g1]
  by_cases x3 : x = 3
  · refine QQ.eq (v := mm_I M 17 1) ?_ ?_
    · rw [u_X11_count, if_neg x0, if_neg x1, if_neg x2, if_pos x3]
      (rw [(show mm_E n xs N (d + 59) _ _ M = some (some (.int (mm_I M 17 1)), M) from u_X9_size n xs N (d + 58) M), ra_I]; simp only [Option.bind_some])
    · rw [u_X12_count, if_neg x0, if_neg x1, if_neg x2, if_pos x3, g2]
  by_cases x4 : x = 4
  · refine QQ.eq (v := mm_I M 25 2) ?_ ?_
    · rw [u_X11_count, if_neg x0, if_neg x1, if_neg x2, if_neg x3, if_pos x4]
      (rw [(show mm_E n xs N (d + 59) _ _ M = some (some (.int (mm_I M 25 2)), M) from u_X4_chosen n xs N (d + 58) M), ra_I]; simp only [Option.bind_some])
    · rw [u_X12_count, if_neg x0, if_neg x1, if_neg x2, if_neg x3, if_pos x4, g3]
  by_cases x5 : x = 5
  · refine QQ.eq (v := mm_I M 35 8) ?_ ?_
    · rw [u_X11_count, if_neg x0, if_neg x1, if_neg x2, if_neg x3, if_neg x4, if_pos x5]
    · rw [u_X12_count, if_neg x0, if_neg x1, if_neg x2, if_neg x3, if_neg x4, if_pos x5, hC.b16]
  by_cases x6 : x = 6
  · refine QQ.eq (v := mm_I M 35 0) ?_ ?_
    · rw [u_X11_count, if_neg x0, if_neg x1, if_neg x2, if_neg x3, if_neg x4, if_neg x5, if_pos x6]
    · rw [u_X12_count, if_neg x0, if_neg x1, if_neg x2, if_neg x3, if_neg x4, if_neg x5, if_pos x6, hC.b8]
  by_cases x7 : x = 7
  · refine QQ.eq (v := mm_I M 35 1) ?_ ?_
    · rw [u_X11_count, if_neg x0, if_neg x1, if_neg x2, if_neg x3, if_neg x4, if_neg x5, if_neg x6, if_pos x7]
    · rw [u_X12_count, if_neg x0, if_neg x1, if_neg x2, if_neg x3, if_neg x4, if_neg x5, if_neg x6, if_pos x7, hC.b9]
  by_cases x8 : x = 8
  · refine QQ.eq (v := mm_I M 35 3) ?_ ?_
    · rw [u_X11_count, if_neg x0, if_neg x1, if_neg x2, if_neg x3, if_neg x4, if_neg x5, if_neg x6, if_neg x7, if_pos x8]
    · rw [u_X12_count, if_neg x0, if_neg x1, if_neg x2, if_neg x3, if_neg x4, if_neg x5, if_neg x6, if_neg x7, if_pos x8, hC.b11]
  by_cases x9 : x = 9
  · refine QQ.eq (v := mm_I M 35 6) ?_ ?_
    · rw [u_X11_count, if_neg x0, if_neg x1, if_neg x2, if_neg x3, if_neg x4, if_neg x5, if_neg x6, if_neg x7, if_neg x8, if_pos x9]
    · rw [u_X12_count, if_neg x0, if_neg x1, if_neg x2, if_neg x3, if_neg x4, if_neg x5, if_neg x6, if_neg x7, if_neg x8, if_pos x9, hC.b14]
  by_cases x10 : x = 10
  · refine QQ.eq (v := mm_I M 35 7) ?_ ?_
    · rw [u_X11_count, if_neg x0, if_neg x1, if_neg x2, if_neg x3, if_neg x4, if_neg x5, if_neg x6, if_neg x7, if_neg x8, if_neg x9, if_pos x10]
    · rw [u_X12_count, if_neg x0, if_neg x1, if_neg x2, if_neg x3, if_neg x4, if_neg x5, if_neg x6, if_neg x7, if_neg x8, if_neg x9, if_pos x10, hC.b15]
  by_cases x11 : x = 11
  · refine QQ.eq (v := mm_I M 16 18) ?_ ?_
    · rw [u_X11_count, if_neg x0, if_neg x1, if_neg x2, if_neg x3, if_neg x4, if_neg x5, if_neg x6, if_neg x7, if_neg x8, if_neg x9, if_neg x10, if_pos x11]
    · rw [u_X12_count, if_neg x0, if_neg x1, if_neg x2, if_neg x3, if_neg x4, if_neg x5, if_neg x6, if_neg x7, if_neg x8, if_neg x9, if_neg x10, if_pos x11, ← hI.2.2.2.2.2.2.2.2.2.2.2.1.1]
  by_cases x12 : x = 12
  · refine QQ.eq (v := nI k) ?_ ?_
    · rw [u_X11_count, if_neg x0, if_neg x1, if_neg x2, if_neg x3, if_neg x4, if_neg x5, if_neg x6, if_neg x7, if_neg x8, if_neg x9, if_neg x10, if_neg x11, if_pos x12]
      (rw [(show mm_E n xs N (d + 59) _ _ M = some (some (.int (nI k)), M) from (u_X8_size n xs N (d + 58) M).trans (by rw [hI.2.1.2.1])), ra_I]; simp only [Option.bind_some])
    · rw [u_X12_count, if_neg x0, if_neg x1, if_neg x2, if_neg x3, if_neg x4, if_neg x5, if_neg x6, if_neg x7, if_neg x8, if_neg x9, if_neg x10, if_neg x11, if_pos x12, hI.2.1.2.2.1]
  by_cases x13 : x = 13
  · refine QQ.eq (v := nI (min 60 (Dk 0))) ?_ ?_
    · rw [u_X11_count, if_neg x0, if_neg x1, if_neg x2, if_neg x3, if_neg x4, if_neg x5, if_neg x6, if_neg x7, if_neg x8, if_neg x9, if_neg x10, if_neg x11, if_neg x12, if_pos x13]
      (rw [(show mm_E n xs N (d + 59) _ _ M = some (some (.int (nI (min 60 (Dk 0)))), M) from E_logSize (d + 57) (by omega) h8), ra_I]; simp only [Option.bind_some])
    · rw [u_X12_count, if_neg x0, if_neg x1, if_neg x2, if_neg x3, if_neg x4, if_neg x5, if_neg x6, if_neg x7, if_neg x8, if_neg x9, if_neg x10, if_neg x11, if_neg x12, if_pos x13, hI.2.2.2.2.2.1.1]
  by_cases x14 : x = 14
  · refine QQ.eq (v := nI z) ?_ ?_
    · rw [u_X11_count, if_neg x0, if_neg x1, if_neg x2, if_neg x3, if_neg x4, if_neg x5, if_neg x6, if_neg x7, if_neg x8, if_neg x9, if_neg x10, if_neg x11, if_neg x12, if_neg x13, if_pos x14]
      (rw [(show mm_E n xs N (d + 59) _ _ M = some (some (.int (nI z)), M) from (u_X6_size n xs N (d + 58) M).trans (by rw [hI.2.2.1.2.2.1])), ra_I]; simp only [Option.bind_some])
    · rw [u_X12_count, if_neg x0, if_neg x1, if_neg x2, if_neg x3, if_neg x4, if_neg x5, if_neg x6, if_neg x7, if_neg x8, if_neg x9, if_neg x10, if_neg x11, if_neg x12, if_neg x13, if_pos x14, hI.2.2.2.2.1.1]
  refine QQ.eq (v := -1000000) ?_ ?_
  · rw [u_X11_count, if_neg x0, if_neg x1, if_neg x2, if_neg x3, if_neg x4, if_neg x5, if_neg x6, if_neg x7, if_neg x8, if_neg x9, if_neg x10, if_neg x11, if_neg x12, if_neg x13, if_neg x14]
  · rw [u_X12_count, if_neg x0, if_neg x1, if_neg x2, if_neg x3, if_neg x4, if_neg x5, if_neg x6, if_neg x7, if_neg x8, if_neg x9, if_neg x10, if_neg x11, if_neg x12, if_neg x13, if_neg x14]
end RD
