/-! odds of doors -/
def od (q v B : Nat) : Nat → Nat → Nat → Nat
  | 0, p, s => if s < v then 0 else p
  | h + 1, p, s => od q v B h (p * q / 100) (s / 2 - B) + od q v B h (p - p * q / 100) (s - B)
theorem od_0 (q v B p s : Nat) : od q v B 0 p s = if s < v then 0 else p := rfl
theorem od_s (q v B h p s : Nat) : od q v B (h + 1) p s = od q v B h (p * q / 100) (s / 2 - B) + od q v B h (p - p * q / 100) (s - B) := rfl
theorem od_part {p q : Nat} (hq : q ≤ 100) : p * q / 100 ≤ p := by
  have : p * q ≤ p * 100 := Nat.mul_le_mul_left p hq
  omega
theorem od_le {q v B : Nat} (hq : q ≤ 100) : ∀ (h p s : Nat), od q v B h p s ≤ p
  | 0, p, s => by unfold od; split <;> omega
  | h + 1, p, s => by
    unfold od
    have h1 := od_le (v := v) (B := B) hq h (p * q / 100) (s / 2 - B)
    have h2 := od_le (v := v) (B := B) hq h (p - p * q / 100) (s - B)
    have h3 := od_part (p := p) hq
    omega
theorem j1000 : ((100 : Int64) = 0) = False := by simp
section OD
variable {n : Nat} {xs : Nat → Int32} {N : Nat} {gv : Int32 → Int32 → Int32 → Int32 → Int32} {M M' : mmM} {nc nm : Nat}
theorem half_nI {s : Nat} (hs : s ≤ 99) : nI s / 2 = nI (s / 2) := by
  rw [show (2 : Int32) = nI 2 from rfl, pk_div (by omega) (by omega) (by omega)]
theorem E_parts {q v B : Nat} (hq : q ≤ 100) (hv : v ≤ 99) (hB : B ≤ 19) (M : mmM) : ∀ (h D p s : Nat), h < 100 → h + 3 ≤ D → p ≤ 1000000000 → s ≤ 99 → mm_E n xs N D 165 [.int (nI h), .long (lN p), .int (nI s), .int (nI B), .int (nI q), .int (nI v)] M = some (some (.long (lN (od q v B h p s))), M) := by
  intro h
  induction h with
  | zero =>
    intro D p s hh hD hp hs
    obtain ⟨D, rfl⟩ : ∃ g, D = g + 1 := ⟨D - 1, by omega⟩
    rw [u_X11_partsAt, if_pos (by rw [nI_0]; decide), od_0]
    by_cases g : s < v
    · rw [if_pos g, if_pos (nI_lt g (by omega))]; rfl
    · rw [if_neg g, if_neg (nI_nlt (by omega) (by omega))]
  | succ h ih =>
    intro D p s hh hD hp hs
    obtain ⟨D, rfl⟩ : ∃ g, D = g + 3 := ⟨D - 3, by omega⟩
    rw [u_X11_partsAt, if_neg (nI_nle (by omega) (by omega))]
    by_cases g : p = 0
    · subst g
      have o0 : od q v B (h + 1) 0 s = 0 := by have := od_le (v := v) (B := B) hq (h + 1) 0 s; omega
      rw [o0, if_pos (show lg_cmp (lN 0) (0 : Int64) = 0 from (lg_cmp_eq _ _).mpr rfl)]
      split <;> rfl
    · have e1 : lN p * (nI q).toInt64 / (100 : Int64) = lN (p * q / 100) := by
        have : p * q ≤ 1000000000 * 100 := Nat.mul_le_mul hp hq
        rw [nI_l (by omega), lN_mul, show (100 : Int64) = lN 100 from rfl, pk_lDiv (by omega) (by omega) (by omega)]
      have h3 := od_part (p := p) hq
      rw [if_neg (show ¬ lg_cmp (lN p) (0 : Int64) = 0 from fun w => g ((pk_lEQ (by omega) (by omega)).mp ((lg_cmp_eq _ _).mp w : lN p = lN 0)))]
      simp only [j1000, c20, if_false]
      rw [half_nI hs]
      (rw [E_sunk D M _ _, ra_I]; simp only [Option.bind_some])
      rw [e1, nI_pred, i_max0 (by omega) (by omega)]
      (rw [ih (D + 2) (p * q / 100) (s / 2 - B) (by omega) (by omega) (by omega) (by omega), ra_J]; simp only [Option.bind_some])
      (rw [E_sunk D M _ _, ra_I]; simp only [Option.bind_some])
      rw [i_max0 (by omega) (by omega), lN_sub h3]
      (rw [ih (D + 2) (p - p * q / 100) (s - B) (by omega) (by omega) (by omega) (by omega), ra_J]; simp only [Option.bind_some])
      rw [lN_add, od_s]
/-- of the model: its now is as before -/
def KA (k : Nat) (M M' : mmM) : Prop := S1 80 M M' ∧ ∀ x, x < 17 * k → mm_I M' 80 x = mm_I M 80 x
theorem KA.tr {k : Nat} {M M1 M2 : mmM} (h : KA k M M1) (g : KA k M1 M2) : KA k M M2 := ⟨h.1.tr g.1, fun x hx => (g.2 x hx).trans (h.2 x hx)⟩
theorem KA_step {k s : Nat} {r0 : Nat → Int32} {M1 M2 M3 M4 : mmM} (hp : ∀ i, i < 17 → mm_I M1 80 (17 * k + i) = mm_I M1 77 i) (h1 : ∀ i, 17 ≤ i → mm_I M1 77 i = r0 i) (s2 : S1 77 M1 M2) (h2 : TK r0 (mm_I M2 77) s) (s3 : KA (k + 1) M2 M3) (s4 : S1 77 M3 M4) (r4 : mm_I M4 77 = fun i => if i < 17 then mm_I M3 80 (17 * k + i) else mm_I M3 77 i) : KA (k + 1) M1 M4 := by
  have e80 : mm_I M4 80 = mm_I M3 80 := s4.I (by decide)
  have e80' : mm_I M2 80 = mm_I M1 80 := s2.I (by decide)
  refine ⟨⟨s4.1.trans (s3.1.1.trans s2.1), s4.2.1.trans (s3.1.2.1.trans s2.2.1), s4.2.2.1.trans (s3.1.2.2.1.trans s2.2.2.1), s4.2.2.2.1.trans (s3.1.2.2.2.1.trans s2.2.2.2.1), s4.2.2.2.2.1.trans (s3.1.2.2.2.2.1.trans s2.2.2.2.2.1), fun b hb => ?_⟩, fun x hx => ?_⟩
  · by_cases h77 : b = 77
    · subst h77
      rw [r4]
      funext i
      by_cases hi : i < 17
      · rw [if_pos hi, s3.2 _ (by omega), e80', hp i hi]
      · rw [if_neg hi, s3.1.I (by decide), h2.2.2.2.2 i (by omega), h1 i (by omega)]
    · rw [s4.I h77, s3.1.I hb, s2.I h77]
  · rw [e80, s3.2 x hx, e80']
theorem ol_0 (D f : Nat) (y1 y2 y3 y4 y5 y6 y7 : Int32) {v : Int32} {M1 M2 M3 M4 : mmM} (h2 : mm_E n xs N D 234 [.ref 60] M1 = some (none, M2)) (h3 : mm_E n xs N D 286 [.ref 60, .int (y1 + 1), .int (y2 - 1), .int y3, .int y4, .int (y5 - y6)] M2 = some (some (.int v), M3)) (h4 : mm_E n xs N D 262 [.ref 60, .int y1] M3 = some (none, M4)) : lp_X12_oddsFrom n xs N D (f + 1) 47 [some (.ref 60), some (.int y1), some (.int y2), some (.int y3), some (.int y4), some (.int y5), some (.int y6), some (.int y7), some (.int 0)] [] M1 = lp_X12_oddsFrom n xs N D f 47 [some (.ref 60), some (.int y1), some (.int y2), some (.int y3), some (.int y4), some (.int y5), some (.int y6), some (.int (y7 + v)), some (.int 1)] [] M4 := by
  rw [lu_X12_oddsFrom_47, if_neg (show ¬ (2 : Int32) ≤ 0 by decide), if_neg (show ¬ (0 : Int32) = 1 by decide)]
  (rw [h2, ra_V]; simp only [Option.bind_some])
  rw [if_neg (show ¬ (0 : Int32) = 1 by decide)]
  (rw [h3, ra_I]; simp only [Option.bind_some])
  (rw [h4, ra_V]; simp only [Option.bind_some])
  rw [show (0 : Int32) + 1 = 1 by decide]
theorem ol_1 (D f : Nat) (y1 y2 y3 y4 y5 y6 y7 : Int32) {v : Int32} {M1 M2 M3 M4 M5 : mmM} (h1 : mm_E n xs N D 233 [.ref 60] M1 = some (none, M2)) (h2 : mm_E n xs N D 234 [.ref 60] M2 = some (none, M3)) (h3 : mm_E n xs N D 286 [.ref 60, .int (y1 + 1), .int (y2 - 1), .int y3, .int y4, .int y6] M3 = some (some (.int v), M4)) (h4 : mm_E n xs N D 262 [.ref 60, .int y1] M4 = some (none, M5)) : lp_X12_oddsFrom n xs N D (f + 1) 47 [some (.ref 60), some (.int y1), some (.int y2), some (.int y3), some (.int y4), some (.int y5), some (.int y6), some (.int y7), some (.int 1)] [] M1 = lp_X12_oddsFrom n xs N D f 47 [some (.ref 60), some (.int y1), some (.int y2), some (.int y3), some (.int y4), some (.int y5), some (.int y6), some (.int (y7 + v)), some (.int 2)] [] M5 := by
  rw [lu_X12_oddsFrom_47, if_neg (show ¬ (2 : Int32) ≤ 1 by decide), if_pos rfl]
  (rw [h1, ra_V]; simp only [Option.bind_some])
  (rw [h2, ra_V]; simp only [Option.bind_some])
  rw [if_pos trivial]
  (rw [h3, ra_I]; simp only [Option.bind_some])
  (rw [h4, ra_V]; simp only [Option.bind_some])
  rw [show (1 : Int32) + 1 = 2 by decide]
theorem ol_2 (D f : Nat) (y1 y2 y3 y4 y5 y6 y7 : Int32) {M1 : mmM} : lp_X12_oddsFrom n xs N D (f + 1) 47 [some (.ref 60), some (.int y1), some (.int y2), some (.int y3), some (.int y4), some (.int y5), some (.int y6), some (.int y7), some (.int 2)] [] M1 = some (some (.int y7), M1) := by
  rw [lu_X12_oddsFrom_47, if_pos (show (2 : Int32) ≤ 2 by decide)]
theorem E_oddsF {q v B : Nat} (hN : 100 ≤ N) (hq : q ≤ 100) (hv : v ≤ 99) (hB : B ≤ 19) {r0 : Nat → Int32} : ∀ (h k D p s : Nat) (M : mmM), k + h ≤ 9 → h + 6 ≤ D → p ≤ 1000000000 → RT M nc nm → snR M nm r0 = nI B → TK r0 (mm_I M 77) s → ∃ M', mm_E n xs N D 286 [.ref 60, .int (nI k), .int (nI h), .int (nI q), .int (nI v), .int (nI p)] M = some (some (.int (nI (od q v B h p s))), M') ∧ KA k M M' := by
  intro h
  induction h with
  | zero =>
    intro k D p s M hk hD hp hR hB' ht
    obtain ⟨D, rfl⟩ : ∃ g, D = g + 1 := ⟨D - 1, by omega⟩
    have h99 := ht.2.1
    refine ⟨M, ?_, S1.rf, fun _ _ => rfl⟩
    rw [u_X12_oddsFrom, if_pos nI_0, ht.1, od_0]
    by_cases g : s < v
    · rw [if_pos g, if_pos (nI_lt g (by omega)), nI_0]
    · rw [if_neg g, if_neg (nI_nlt (by omega) (by omega))]
  | succ h ih =>
    intro k D p s M hk hD hp hR hsn ht
    obtain ⟨D, rfl⟩ : ∃ g, D = g + 5 := ⟨D - 5, by omega⟩
    have h99 := ht.2.1
    have h3 := od_part (p := p) hq
    have e1 : ((nI p).toInt64 * (nI q).toInt64 / (100 : Int64)).toInt32 = nI (p * q / 100) := by
      have : p * q ≤ 1000000000 * 100 := Nat.mul_le_mul hp hq
      rw [nI_l (by omega), nI_l (by omega), lN_mul, show (100 : Int64) = lN 100 from rfl, pk_lDiv (by omega) (by omega) (by omega), lN_i]
    rw [u_X12_oddsFrom, if_neg (nI_ne0 (by omega) (by omega))]
    simp only [j1000, if_false]
    obtain ⟨M1, a1, s1, p1, q1⟩ := E_putAside (n := n) (xs := xs) (N := N) hN (D + 3) k (by omega) M
    (rw [a1, ra_V]; simp only [Option.bind_some])
    rw [e1]
    have r1 : mm_I M1 77 = mm_I M 77 := s1.I (by decide)
    have R1 : RT M1 nc nm := hR.s1 s1 (by omega)
    have n1 : snR M1 nm r0 = nI B := by rw [snR_S1 s1 (by omega) (by omega)]; exact hsn
    have t1 : TK r0 (mm_I M1 77) s := by rw [r1]; exact ht
    have w1 : ∀ i, i < 17 → mm_I M1 80 (17 * k + i) = mm_I M1 77 i := fun i hi => by rw [p1 i hi, r1]
    -- no door
    obtain ⟨M2, a2, s2, r2⟩ := E_hourM (n := n) (xs := xs) (N := N) R1 hN D
    have t2 : TK r0 (mm_I M2 77) (s - B) := by rw [r2]; exact TK_hour hB t1 n1
    obtain ⟨M3, a3, k3⟩ := ih (k + 1) (D + 4) (p - p * q / 100) (s - B) M2 (by omega) (by omega) (by omega) (R1.s1 s2 (by omega)) (by rw [snR_S1 s2 (by omega) (by omega)]; exact n1) t2
    obtain ⟨M4, a4, s4, r4⟩ := E_takeBack (n := n) (xs := xs) (N := N) hN (D + 3) k (by omega) M3
    have k4 : KA (k + 1) M1 M4 := KA_step w1 t1.2.2.2.2 s2 t2 k3 s4 r4
    -- a door
    have r4' : mm_I M4 77 = mm_I M1 77 := k4.1.I (by decide)
    have R4 : RT M4 nc nm := R1.s1 k4.1 (by omega)
    have n4 : snR M4 nm r0 = nI B := by rw [snR_S1 k4.1 (by omega) (by omega)]; exact n1
    have t4 : TK r0 (mm_I M4 77) s := by rw [r4']; exact t1
    have w4 : ∀ i, i < 17 → mm_I M4 80 (17 * k + i) = mm_I M4 77 i := fun i hi => by rw [k4.2 _ (by omega), w1 i hi, r4']
    obtain ⟨M5, a5, s5, r5⟩ := E_doorM (n := n) (xs := xs) (N := N) (D + 2) M4
    have t5 : TK r0 (mm_I M5 77) (s / 2) := by rw [r5]; exact TK_door t4
    obtain ⟨M6, a6, s6, r6⟩ := E_hourM (n := n) (xs := xs) (N := N) (R4.s1 s5 (by omega)) hN D
    have n5 : snR M5 nm r0 = nI B := by rw [snR_S1 s5 (by omega) (by omega)]; exact n4
    have t6 : TK r0 (mm_I M6 77) (s / 2 - B) := by rw [r6]; exact TK_hour hB t5 n5
    obtain ⟨M7, a7, k7⟩ := ih (k + 1) (D + 4) (p * q / 100) (s / 2 - B) M6 (by omega) (by omega) (by omega) ((R4.s1 s5 (by omega)).s1 s6 (by omega)) (by rw [snR_S1 s6 (by omega) (by omega)]; exact n5) t6
    obtain ⟨M8, a8, s8, r8⟩ := E_takeBack (n := n) (xs := xs) (N := N) hN (D + 3) k (by omega) M7
    have k8 : KA (k + 1) M4 M8 := KA_step w4 t4.2.2.2.2 (s5.tr s6) t6 k7 s8 r8
    have kk := k4.tr k8
    rw [← pk_sub h3, ← nI_pred h, ← nI_1] at a3
    rw [← nI_pred h, ← nI_1] at a7
    have key : ∀ f, lp_X12_oddsFrom n xs N (D + 4) (f + 1 + 1 + 1) 47 [some (.ref 60), some (.int (nI k)), some (.int (nI (h + 1))), some (.int (nI q)), some (.int (nI v)), some (.int (nI p)), some (.int (nI (p * q / 100))), some (.int 0), some (.int 0)] [] M1 = some (some (.int (nI (od q v B (h + 1) p s))), M8) := by
      intro f
      rw [ol_0 _ _ _ _ _ _ _ _ _ a2 a3 a4, ol_1 _ _ _ _ _ _ _ _ _ a5 a6 a7 a8, ol_2, Int32.zero_add, nI_add, od_s, Nat.add_comm (od q v B h (p * q / 100) (s / 2 - B))]
    obtain ⟨f, hf⟩ : ∃ f, N = f + 1 + 1 + 1 := ⟨N - 3, by omega⟩
    refine ⟨M8, ?_, ⟨s1.tr kk.1, fun x hx => ?_⟩⟩
    · have := key f
      rw [← hf] at this
      exact this
    · rw [kk.2 x (by omega), q1 x (by omega)]
theorem S1.sm {M M1 : mmM} (h : S1 80 M M1) : SM M M1 := ⟨h.1, h.2.1, h.2.2.1, h.2.2.2.1, h.2.2.2.2.1, fun _ _ _ h3 => h.I h3⟩
theorem Q_odds (h : CT n xs N gv M nc nm) (d : Nat) (x q v : Int32) : QQ n xs N (d + 60) M 164 [.ref 16, .int x, .int q, .int v] 287 [.ref 60, .int x, .int q, .int v] := by
  have hN := h.nN
  unfold QQ
  rw [u_X11_odds]
  simp only [u_X12_odds]
  by_cases h0 : nm = 0
  · refine ⟨-1, M, M, ?_, FR.rf, ?_, FR.rf⟩
    · rw [if_pos (h.X0 h0).1]
    · rw [if_pos (h.X0 h0).2]
  · rw [if_neg (h.X1 h0).1]
    (rw [E_isWithin (d + 58) M 0 x 8, ra_I]; simp only [Option.bind_some])
    cases hx : wi 0 x 8 with
    | false =>
      refine ⟨-1, M, M, rfl, FR.rf, ?_, FR.rf⟩
      rw [if_neg (h.X1 h0).2]
      (rw [E_in (d + 58) M x 0 8, ra_I]; simp only [Option.bind_some])
      rw [hx]
      rfl
    | true =>
      rw [if_neg (show ¬ mb true = 0 by decide)]
      (rw [E_isWithin (d + 58) M 0 q 100, ra_I]; simp only [Option.bind_some])
      cases hq : wi 0 q 100 with
      | false =>
        refine ⟨-1, M, M, rfl, FR.rf, ?_, FR.rf⟩
        rw [if_neg (h.X1 h0).2]
        (rw [E_in (d + 58) M x 0 8, ra_I]; simp only [Option.bind_some])
        rw [hx, if_neg (show ¬ mb true = 0 by decide)]
        (rw [E_in (d + 58) M q 0 100, ra_I]; simp only [Option.bind_some])
        rw [hq]
        rfl
      | true =>
        rw [if_neg (show ¬ mb true = 0 by decide)]
        (rw [E_isStand (d + 57) M v, ra_I]; simp only [Option.bind_some])
        cases hv : wi 0 v 99 with
        | false =>
          refine ⟨-1, M, M, rfl, FR.rf, ?_, FR.rf⟩
          rw [if_neg (h.X1 h0).2]
          (rw [E_in (d + 58) M x 0 8, ra_I]; simp only [Option.bind_some])
          rw [hx, if_neg (show ¬ mb true = 0 by decide)]
          (rw [E_in (d + 58) M q 0 100, ra_I]; simp only [Option.bind_some])
          rw [hq, if_neg (show ¬ mb true = 0 by decide)]
          (rw [E_in (d + 58) M v 0 99, ra_I]; simp only [Option.bind_some])
          rw [hv]
          rfl
        | true =>
          obtain ⟨x, bx, rfl⟩ := wi_t (k := 8) (by decide) hx
          obtain ⟨q, bq, rfl⟩ := wi_t (k := 100) (by decide) hq
          obtain ⟨v, bv, rfl⟩ := wi_t (k := 99) (by decide) hv
          obtain ⟨B, hB, eB⟩ := h.skN
          obtain ⟨s, es, hs, ht⟩ := h.tk
          obtain ⟨M', e', k'⟩ := E_oddsF (n := n) (xs := xs) (N := N) (q := q) (v := v) (by omega) bq bv hB (r0 := mm_I M 77) x 0 (d + 59) 1000000000 s M (by omega) (by omega) (by omega) h.1 (by rw [h.snk, eB]) ht
          refine ⟨nI (od q v B x 1000000000 s), M, M', ?_, FR.rf, ?_, k'.1.sm.fr⟩
          · rw [if_neg (show ¬ mb true = 0 by decide)]
            (rw [E_sinksX h (d + 54), ra_I]; simp only [Option.bind_some])
            rw [es, eB]
            (rw [(show mm_E n xs N (d + 59) 165 [.int (nI x), .long (1000000000 : Int64), .int (nI s), .int (nI B), .int (nI q), .int (nI v)] M = _ from E_parts bq bv hB M x (d + 59) 1000000000 s (by omega) (by omega) (by omega) hs), ra_J]; simp only [Option.bind_some])
            rw [lN_i]
          · rw [if_neg (h.X1 h0).2]
            (rw [E_in (d + 58) M (nI x) 0 8, ra_I]; simp only [Option.bind_some])
            rw [hx, if_neg (show ¬ mb true = 0 by decide)]
            (rw [E_in (d + 58) M (nI q) 0 100, ra_I]; simp only [Option.bind_some])
            rw [hq, if_neg (show ¬ mb true = 0 by decide)]
            (rw [E_in (d + 58) M (nI v) 0 99, ra_I]; simp only [Option.bind_some])
            rw [hv, if_neg (show ¬ mb true = 0 by decide)]
            (rw [(show mm_E n xs N (d + 59) 286 [.ref 60, .int 0, .int (nI x), .int (nI q), .int (nI v), .int 1000000000] M = _ from e'), ra_I]; simp only [Option.bind_some])
/-! shares -/
theorem L_sharesX (h : RT M nc nm) (d : Nat) (c : Nat) (hc : c < 4) (x : Int32) : ∀ (j i f : Nat) (a : Int32), i + j = nc → j < f → 0 < (foldI (fun i a => a + mm_I M 37 i) i j a) → lp_X11_shares n xs N (d + 2) f 26 [some (.ref 16), some (.int (nI c)), some (.int x), some (.int a), some (.int (nI i))] [] M = some (some (.int (x * mm_I M 37 c / foldI (fun i a => a + mm_I M 37 i) i j a)), M) := by
  have h4 := h.1
  intro j
  induction j with
  | zero =>
    intro i f a hij hf hp
    obtain ⟨f, rfl⟩ : ∃ g, f = g + 1 := ⟨f - 1, by omega⟩
    rw [lu_X11_shares_26]
    (rw [hM1 d h, ra_I]; simp only [Option.bind_some])
    rw [if_pos (nI_le (by omega) (by omega))]
    unfold foldI at hp ⊢
    rw [if_neg (i_nle.mpr hp)]
    (rw [E_wristOf (d + 1) M c hc, ra_I]; simp only [Option.bind_some])
    rw [if_neg (fun q => by rw [q] at hp; exact absurd hp (by decide))]
  | succ j ih =>
    intro i f a hij hf hp
    obtain ⟨f, rfl⟩ : ∃ g, f = g + 1 := ⟨f - 1, by omega⟩
    rw [lu_X11_shares_26]
    (rw [hM1 d h, ra_I]; simp only [Option.bind_some])
    rw [if_neg (nI_ge (show i < nc by omega) (by omega))]
    (rw [E_wristOf (d + 1) M i (by omega), ra_I]; simp only [Option.bind_some])
    rw [nI_1, ih (i + 1) f _ (by omega) (by omega) hp]
    rfl
theorem L_sharesM (h : RT M nc nm) (d : Nat) (c : Nat) (hc : c < 4) (x : Int32) (r : Nat → Int32) (hr : ∀ i, i < nc → mm_I M 77 i = r i) (hrc : mm_I M 77 c = r c) : ∀ (j i f : Nat) (a : Int32), i + j = nc → j < f → 0 < (foldI (fun i a => a + r i) i j a) → lp_X12_shares n xs N d f 26 [some (.ref 60), some (.int (nI c)), some (.int x), some (.int a), some (.int (nI i))] [] M = some (some (.int (x * r c / foldI (fun i a => a + r i) i j a)), M) := by
  have h4 := h.1
  intro j
  induction j with
  | zero =>
    intro i f a hij hf hp
    obtain ⟨f, rfl⟩ : ∃ g, f = g + 1 := ⟨f - 1, by omega⟩
    rw [lu_X12_shares_26, h.2.2.2.2.2.2.1, if_pos (nI_le (by omega) (by omega)), Int32.zero_add]
    simp only [mm_inb_nI (show c < 198 by omega) (by omega), cond_true, nI_clamp (show c < 2 ^ 31 by omega), hrc]
    unfold foldI at hp ⊢
    rw [if_neg (fun q => by rw [q] at hp; exact absurd hp (by decide))]
  | succ j ih =>
    intro i f a hij hf hp
    obtain ⟨f, rfl⟩ : ∃ g, f = g + 1 := ⟨f - 1, by omega⟩
    rw [lu_X12_shares_26, h.2.2.2.2.2.2.1, if_neg (nI_ge (show i < nc by omega) (by omega)), Int32.zero_add]
    simp only [mm_inb_nI (show i < 198 by omega) (by omega), cond_true, nI_clamp (show i < 2 ^ 31 by omega), hr i (by omega)]
    rw [nI_1, ih (i + 1) f _ (by omega) (by omega) hp]
    rfl
theorem foldW_pos {r : Nat → Int32} : ∀ (j i : Nat) (a : Int32) (b : Nat), (∀ k, i ≤ k → k < i + j → bd 1 9 (r k)) → bd 0 b a → b + 9 * j ≤ 1000 → (0 < a.toInt ∨ 0 < j) → 0 < foldI (fun i a => a + r i) i j a
  | 0, i, a, b, _, ha, hb, hp => by
    unfold foldI
    exact Int32.lt_iff_toInt_lt.mpr (by have : (0 : Int32).toInt = 0 := by decide
                                        omega)
  | j + 1, i, a, b, hr, ha, hb, hp => by
    unfold foldI
    have h1 := hr i (by omega) (by omega)
    unfold bd at ha h1
    have e : (a + r i).toInt = a.toInt + (r i).toInt := t_add (by omega) (by omega)
    exact foldW_pos j (i + 1) (a + r i) (b + 9) (fun k g1 g2 => hr k (by omega) (by omega)) (by unfold bd; omega) (by omega) (Or.inl (by omega))
theorem Q_shares (h : CT n xs N gv M nc nm) (d : Nat) (c x : Int32) : QQ n xs N (d + 60) M 166 [.ref 16, .int c, .int x] 288 [.ref 60, .int c, .int x] := by
  have h4 := h.nc4
  have hN := h.nN
  unfold QQ
  rw [u_X11_shares]
  simp only [u_X12_shares]
  (rw [E_hasCook (d + 56) h.1, ra_I]; simp only [Option.bind_some])
  cases hk : ck nc c with
  | false =>
    refine ⟨-1, M, M, rfl, FR.rf, ?_, FR.rf⟩
    (rw [E_isCook (d + 57) h.1, ra_I]; simp only [Option.bind_some])
    rw [hk]
    rfl
  | true =>
    obtain ⟨c, hc, rfl⟩ := ck_t (by omega) hk
    rw [if_neg (show ¬ mb true = 0 by decide)]
    (rw [E_isWithin (d + 58) M 0 x 999, ra_I]; simp only [Option.bind_some])
    cases hx : wi 0 x 999 with
    | false =>
      refine ⟨-1, M, M, rfl, FR.rf, ?_, FR.rf⟩
      (rw [E_isCook (d + 57) h.1, ra_I]; simp only [Option.bind_some])
      rw [hk, if_neg (show ¬ mb true = 0 by decide)]
      (rw [E_in (d + 58) M x 0 999, ra_I]; simp only [Option.bind_some])
      rw [hx]
      rfl
    | true =>
      rw [if_neg (show ¬ mb true = 0 by decide)]
      have hp : 0 < foldI (fun i a => a + mm_I M 37 i) 0 nc 0 := foldW_pos nc 0 0 0 (fun k _ g => h.wr (by omega)) (by unfold bd; decide) (by omega) (Or.inr (by omega))
      refine ⟨_, M, M, L_sharesX h.1 (d + 57) c (by omega) x nc 0 N 0 (by omega) (by omega) hp, FR.rf, ?_, FR.rf⟩
      (rw [E_isCook (d + 57) h.1, ra_I]; simp only [Option.bind_some])
      rw [hk, if_neg (show ¬ mb true = 0 by decide)]
      (rw [E_in (d + 58) M x 0 999, ra_I]; simp only [Option.bind_some])
      rw [hx, if_neg (show ¬ mb true = 0 by decide)]
      exact L_sharesM h.1 (d + 59) c (by omega) x (mm_I M 37) (fun i hi => (h.cm hi).1) (h.cm hc).1 nc 0 N 0 (by omega) (by omega) hp
/-! ahead -/
theorem CT.gl (h : CT n xs N gv M nc nm) : bd 0 9999 (mm_I M 35 6) := h.2.1.2.2.2.2.2.2.2.2.2.2.2.2.2.2.2.2.1
theorem CT.b14 (h : CT n xs N gv M nc nm) : mm_I M 77 14 = mm_I M 35 6 := h.2.1.2.2.2.2.2.2.1
theorem L_aheadM (h : CT n xs N gv M nc nm) (d : Nat) {g w x : Nat} (hg : mm_I M 35 6 = nI g) (hw : wth M nm = nI w) (bg : g ≤ 9999) (bw : w ≤ 63) (bx : x ≤ 9999) : ∀ (j i f : Nat), i + j = 1000 → j < f → lp_X12_ahead n xs N (d + 2) f 22 [some (.ref 60), some (.int (nI x)), some (.int (nI i))] [] M = some (some (.int (fst1 (fun i => decide (x ≤ g + i * w)) i j)), M) := by
  have hN := h.nN
  intro j
  induction j with
  | zero =>
    intro i f hij hf
    obtain ⟨f, rfl⟩ : ∃ g, f = g + 1 := ⟨f - 1, by omega⟩
    rw [lu_X12_ahead_22, show (999 : Int32) = nI 999 from rfl, if_pos (nI_lt (by omega) (by omega))]
    rfl
  | succ j ih =>
    intro i f hij hf
    obtain ⟨f, rfl⟩ : ∃ g, f = g + 1 := ⟨f - 1, by omega⟩
    rw [lu_X12_ahead_22, show (999 : Int32) = nI 999 from rfl, if_neg (nI_nlt (by omega) (by omega))]
    (rw [E_worthM d h.1 h.b10 (by omega), ra_I]; simp only [Option.bind_some])
    have hm : i * w ≤ 1000 * 63 := Nat.mul_le_mul (by omega) bw
    rw [h.b14, hg, hw, pk_mul, nI_add]
    unfold fst1
    by_cases q : x ≤ g + i * w
    · rw [if_neg (nI_nlt q (by omega)), if_pos (decide_eq_true q)]
    · rw [if_pos (nI_lt (by omega) (by omega)), if_neg (by simp only [decide_eq_true_eq]; exact q), nI_1]
      exact ih (i + 1) f (by omega) (by omega)
theorem fst1_div {g w x : Nat} (hw : 0 < w) (hx : g < x) : ∀ (j i : Nat), i ≤ (x - g + w - 1) / w → fst1 (fun i => decide (x ≤ g + i * w)) i j = if (x - g + w - 1) / w < i + j then nI ((x - g + w - 1) / w) else -1
  | 0, i, h => by
    unfold fst1
    rw [if_neg (by omega)]
  | j + 1, i, h => by
    unfold fst1
    have key : x ≤ g + i * w ↔ (x - g + w - 1) / w ≤ i := by
      constructor
      · intro q
        have : (x - g + w - 1) / w < i + 1 := (Nat.div_lt_iff_lt_mul hw).mpr (by rw [Nat.succ_mul]; omega)
        omega
      · intro q
        have : (x - g + w - 1) / w < i + 1 := by omega
        have := (Nat.div_lt_iff_lt_mul hw).mp this
        rw [Nat.succ_mul] at this
        omega
    by_cases q : x ≤ g + i * w
    · have := key.mp q
      rw [if_pos (decide_eq_true q), if_pos (by omega), show i = (x - g + w - 1) / w by omega]
    · have : ¬ (x - g + w - 1) / w ≤ i := fun w => q (key.mpr w)
      rw [if_neg (by simp only [decide_eq_true_eq]; exact q), fst1_div hw hx j (i + 1) (by omega), show i + 1 + j = i + (j + 1) by omega]
theorem fst1_none {p : Nat → Bool} : ∀ (j i : Nat), (∀ k, i ≤ k → k < i + j → p k = false) → fst1 p i j = -1
  | 0, i, _ => rfl
  | j + 1, i, h => by
    unfold fst1
    rw [h i (by omega) (by omega), if_neg (by decide)]
    exact fst1_none j (i + 1) (fun k h1 h2 => h k (by omega) (by omega))
theorem wi_1t {k : Nat} {x : Int32} (hk : k < 2 ^ 31) (h : wi 1 x (nI k) = true) : ∃ j : Nat, 1 ≤ j ∧ j ≤ k ∧ x = nI j := by
  unfold wi at h
  simp only [Bool.and_eq_true, decide_eq_true_eq] at h
  obtain ⟨j, hj, rfl⟩ := nI_of (x := x) (i_nlt.mpr (Int32.le_trans (by decide) h.1))
  exact ⟨j, (nI_leI (a := 1) (by omega) hj).mp h.1, (nI_leI hj hk).mp h.2, rfl⟩
theorem Q_ahead (h : CT n xs N gv M nc nm) (d : Nat) (x : Int32) : QQ n xs N (d + 60) M 172 [.ref 16, .int x] 294 [.ref 60, .int x] := by
  have hN := h.nN
  unfold QQ
  rw [u_X11_ahead]
  simp only [u_X12_ahead]
  by_cases h0 : nm = 0
  · refine ⟨-1, M, M, ?_, FR.rf, ?_, FR.rf⟩
    · rw [if_pos (h.X0 h0).1]
    · rw [if_pos (h.X0 h0).2]
  · rw [if_neg (h.X1 h0).1]
    (rw [E_isWithin (d + 58) M 1 x 9999, ra_I]; simp only [Option.bind_some])
    cases hx : wi 1 x 9999 with
    | false =>
      refine ⟨-1, M, M, rfl, FR.rf, ?_, FR.rf⟩
      rw [if_neg (h.X1 h0).2]
      (rw [E_in (d + 58) M x 1 9999, ra_I]; simp only [Option.bind_some])
      rw [hx]
      rfl
    | true =>
      obtain ⟨x, b1, bx, rfl⟩ := wi_1t (k := 9999) (by decide) hx
      obtain ⟨g, bg, eg⟩ := bd_nI (h := 9999) h.gl
      obtain ⟨w, bw, ew⟩ := h.wthN
      refine ⟨fst1 (fun i => decide (x ≤ g + i * w)) 0 1000, M, M, ?_, FR.rf, ?_, FR.rf⟩
      · rw [if_neg (show ¬ mb true = 0 by decide)]
        (rw [E_worthX (d + 55) h.1 (by omega), ra_I]; simp only [Option.bind_some])
        rw [eg, ew]
        by_cases hg : x ≤ g
        · rw [if_neg (fun q => by
            have q1 := Int32.lt_iff_toInt_lt.mp q
            rw [pk_sub_toInt (by omega) (by omega), show (0 : Int32).toInt = 0 by decide] at q1
            omega)]
          rw [show (1000 : Nat) = 999 + 1 from rfl]
          unfold fst1
          rw [if_pos (decide_eq_true (show x ≤ g + 0 * w by omega))]
          rfl
        · rw [pk_sub (by omega), if_pos (by rw [← nI_0]; exact nI_lt (by omega) (by omega))]
          by_cases w0 : w = 0
          · subst w0
            rw [if_pos (by rw [nI_0]; decide), if_pos (by decide), fst1_none]
            intro k _ _
            exact decide_eq_false (by omega)
          · rw [if_neg (nI_nle (by omega) (by omega)), if_neg (nI_ne0 (by omega) (by omega)), fst1_div (by omega) (by omega) _ _ (Nat.zero_le _), nI_add, nI_m1 (by omega), pk_div (by omega) (by omega) (by omega)]
            have hle : (x - g + w - 1) / w ≤ 20000 := Nat.le_trans (Nat.div_le_self _ _) (by omega)
            by_cases q : (x - g + w - 1) / w < 0 + 1000
            · rw [if_pos q, show (999 : Int32) = nI 999 from rfl, if_neg (nI_nlt (by omega) (by omega))]
            · rw [if_neg q, show (999 : Int32) = nI 999 from rfl, if_pos (nI_lt (by omega) (by omega))]
      · rw [if_neg (h.X1 h0).2]
        (rw [E_in (d + 58) M _ 1 9999, ra_I]; simp only [Option.bind_some])
        rw [hx, if_neg (show ¬ mb true = 0 by decide)]
        exact L_aheadM h (d + 57) eg ew bg bw bx 1000 0 N (by omega) (by omega)
end OD
