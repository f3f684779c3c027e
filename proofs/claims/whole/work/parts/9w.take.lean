section TK
variable {n : Nat} {xs : Nat → Int32} {N : Nat}
theorem L_tk18 (d f : Nat) : ∀ (j i : Nat) (M : mmM), i + j = 4 → ∃ M1, lp_X12_takeDuchy n xs N d (f + j + 1) 18 [some (.ref 60), some (.int (nI i))] [] M = lp_X12_takeDuchy n xs N d f 43 [some (.ref 60), some (.int (0 : Int32))] [] M1 ∧ S1 74 M M1 ∧ ∀ k, mm_I M1 74 k = if i ≤ k ∧ k < 4 then mm_I M 71 k else mm_I M 74 k := by
  intro j
  induction j with
  | zero =>
    intro i M hi
    have : i = 4 := by omega
    subst this
    refine ⟨M, ?_, S1.rf, fun k => by rw [if_neg (by omega)]⟩
    rw [lu_X12_takeDuchy_18, if_pos (by rw [show (4 : Int32) = nI 4 from by decide]; exact nI_le (Nat.le_refl _) (by omega))]
  | succ j ih =>
    intro i M hi
    obtain ⟨M1, e1, x1, r1⟩ := ih (i + 1) (mm_wI M 74 i (mm_I M 71 i)) (by omega)
    refine ⟨M1, ?_, S1.wI.tr x1, fun k => ?_⟩
    · rw [show f + (j + 1) + 1 = (f + j + 1) + 1 by omega, lu_X12_takeDuchy_18, if_neg (by rw [show (4 : Int32) = nI 4 from by decide]; exact nI_ge (show i < 4 by omega) (by omega)), mm_inb_nI (n := 4) (by omega) (by omega), nI_clamp (by omega), nI_1]
      exact e1
    · rw [r1]
      by_cases q : k = i
      · subst q
        rw [if_neg (by omega), if_pos (by omega), I_s, if_pos rfl]
      · rw [I_s, if_neg q, I_wn (show (71 : Nat) ≠ 74 by decide)]
        by_cases q2 : i + 1 ≤ k ∧ k < 4
        · rw [if_pos q2, if_pos (by omega)]
        · rw [if_neg q2, if_neg (by omega)]
theorem L_tk43 (d f : Nat) : ∀ (j i : Nat) (M : mmM), i + j = 8 → ∃ M1, lp_X12_takeDuchy n xs N d (f + j + 1) 43 [some (.ref 60), some (.int (nI i))] [] M = lp_X12_takeDuchy n xs N d f 69 [some (.ref 60), some (.int (0 : Int32))] [] M1 ∧ S1 75 M M1 ∧ ∀ k, mm_I M1 75 k = if i ≤ k ∧ k < 8 then mm_I M 72 k else mm_I M 75 k := by
  intro j
  induction j with
  | zero =>
    intro i M hi
    have : i = 8 := by omega
    subst this
    refine ⟨M, ?_, S1.rf, fun k => by rw [if_neg (by omega)]⟩
    rw [lu_X12_takeDuchy_43, if_pos (by rw [show (8 : Int32) = nI 8 from by decide]; exact nI_le (Nat.le_refl _) (by omega))]
  | succ j ih =>
    intro i M hi
    obtain ⟨M1, e1, x1, r1⟩ := ih (i + 1) (mm_wI M 75 i (mm_I M 72 i)) (by omega)
    refine ⟨M1, ?_, S1.wI.tr x1, fun k => ?_⟩
    · rw [show f + (j + 1) + 1 = (f + j + 1) + 1 by omega, lu_X12_takeDuchy_43, if_neg (by rw [show (8 : Int32) = nI 8 from by decide]; exact nI_ge (show i < 8 by omega) (by omega)), mm_inb_nI (n := 8) (by omega) (by omega), nI_clamp (by omega), nI_1]
      exact e1
    · rw [r1]
      by_cases q : k = i
      · subst q
        rw [if_neg (by omega), if_pos (by omega), I_s, if_pos rfl]
      · rw [I_s, if_neg q, I_wn (show (72 : Nat) ≠ 75 by decide)]
        by_cases q2 : i + 1 ≤ k ∧ k < 8
        · rw [if_pos q2, if_pos (by omega)]
        · rw [if_neg q2, if_neg (by omega)]
theorem L_tk69 (d f : Nat) : ∀ (j i : Nat) (M : mmM), i + j = 28 → ∃ M1, lp_X12_takeDuchy n xs N d (f + j + 1) 69 [some (.ref 60), some (.int (nI i))] [] M = lp_X12_takeDuchy n xs N d f 95 [some (.ref 60), some (.int (0 : Int32))] [] M1 ∧ S1 76 M M1 ∧ ∀ k, mm_I M1 76 k = if i ≤ k ∧ k < 28 then mm_I M 73 k else mm_I M 76 k := by
  intro j
  induction j with
  | zero =>
    intro i M hi
    have : i = 28 := by omega
    subst this
    refine ⟨M, ?_, S1.rf, fun k => by rw [if_neg (by omega)]⟩
    rw [lu_X12_takeDuchy_69, if_pos (by rw [show (28 : Int32) = nI 28 from by decide]; exact nI_le (Nat.le_refl _) (by omega))]
  | succ j ih =>
    intro i M hi
    obtain ⟨M1, e1, x1, r1⟩ := ih (i + 1) (mm_wI M 76 i (mm_I M 73 i)) (by omega)
    refine ⟨M1, ?_, S1.wI.tr x1, fun k => ?_⟩
    · rw [show f + (j + 1) + 1 = (f + j + 1) + 1 by omega, lu_X12_takeDuchy_69, if_neg (by rw [show (28 : Int32) = nI 28 from by decide]; exact nI_ge (show i < 28 by omega) (by omega)), mm_inb_nI (n := 28) (by omega) (by omega), nI_clamp (by omega), nI_1]
      exact e1
    · rw [r1]
      by_cases q : k = i
      · subst q
        rw [if_neg (by omega), if_pos (by omega), I_s, if_pos rfl]
      · rw [I_s, if_neg q, I_wn (show (73 : Nat) ≠ 76 by decide)]
        by_cases q2 : i + 1 ≤ k ∧ k < 28
        · rw [if_pos q2, if_pos (by omega)]
        · rw [if_neg q2, if_neg (by omega)]
theorem L_tk95 (d f : Nat) : ∀ (j i : Nat) (M : mmM), i + j = 198 → ∃ M1, lp_X12_takeDuchy n xs N d (f + j + 1) 95 [some (.ref 60), some (.int (nI i))] [] M = lp_X12_takeDuchy n xs N d f 117 [some (.ref 60), some (.int (0 : Int32))] [] M1 ∧ S1 77 M M1 ∧ ∀ k, mm_I M1 77 k = if i ≤ k ∧ k < 198 then 0 else mm_I M 77 k := by
  intro j
  induction j with
  | zero =>
    intro i M hi
    have : i = 198 := by omega
    subst this
    refine ⟨M, ?_, S1.rf, fun k => by rw [if_neg (by omega)]⟩
    rw [lu_X12_takeDuchy_95, if_pos (by rw [show (198 : Int32) = nI 198 from by decide]; exact nI_le (Nat.le_refl _) (by omega))]
  | succ j ih =>
    intro i M hi
    obtain ⟨M1, e1, x1, r1⟩ := ih (i + 1) (mm_wI M 77 i (0 : Int32)) (by omega)
    refine ⟨M1, ?_, S1.wI.tr x1, fun k => ?_⟩
    · rw [show f + (j + 1) + 1 = (f + j + 1) + 1 by omega, lu_X12_takeDuchy_95, if_neg (by rw [show (198 : Int32) = nI 198 from by decide]; exact nI_ge (show i < 198 by omega) (by omega)), mm_inb_nI (n := 198) (by omega) (by omega), nI_clamp (by omega), nI_1]
      rw [show (true && Nat.ble 16 77) = true from rfl, cond_true]
      exact e1
    · rw [r1]
      by_cases q : k = i
      · subst q
        rw [if_neg (by omega), if_pos (by omega), I_s, if_pos rfl]
      · rw [I_s, if_neg q]
        by_cases q2 : i + 1 ≤ k ∧ k < 198
        · rw [if_pos q2, if_pos (by omega)]
        · rw [if_neg q2, if_neg (by omega)]
theorem L_tk117 (d nc : Nat) (h4 : nc ≤ 4) : ∀ (j i f : Nat) (M : mmM), i + j = nc → j < f → mm_I M 60 25 = nI nc → ∃ M1, lp_X12_takeDuchy n xs N d f 117 [some (.ref 60), some (.int (nI i))] [] M = some (some (.int (mm_I M 60 26)), mm_wI (mm_wI (mm_wI (mm_wI (mm_wI M1 77 12 (mm_I M 74 1)) 77 13 (mm_I M 74 3)) 60 43 (0 : Int32)) 60 32 (0 : Int32)) 60 45 (0 : Int32)) ∧ S1 77 M M1 ∧ ∀ k, mm_I M1 77 k = if i ≤ k ∧ k < nc then mm_I M 75 (2 * k) else mm_I M 77 k := by
  intro j
  induction j with
  | zero =>
    intro i f M hi hf h25
    obtain ⟨f, rfl⟩ : ∃ g, f = g + 1 := ⟨f - 1, by omega⟩
    refine ⟨M, ?_, S1.rf, fun k => by rw [if_neg (by omega)]⟩
    rw [lu_X12_takeDuchy_117, h25, if_pos (nI_le (by omega) (by omega))]
  | succ j ih =>
    intro i f M hi hf h25
    obtain ⟨f, rfl⟩ : ∃ g, f = g + 1 := ⟨f - 1, by omega⟩
    obtain ⟨M1, e1, x1, r1⟩ := ih (i + 1) f (mm_wI M 77 i (mm_I M 75 (2 * i))) (by omega) (by omega) (by rw [I_wn (by decide)]; exact h25)
    refine ⟨M1, ?_, S1.wI.tr x1, fun k => ?_⟩
    · rw [lu_X12_takeDuchy_117, h25, if_neg (nI_ge (by omega) (by omega)), Int32.add_zero, Int32.zero_add, show (2 : Int32) = nI 2 from rfl, pk_mul, mm_inb_nI (n := 8) (by omega) (by omega), mm_inb_nI (n := 198) (by omega) (by omega), nI_clamp (by omega), nI_clamp (by omega), nI_1]
      rw [I_wn (show (60 : Nat) ≠ 77 by decide), I_wn (show (74 : Nat) ≠ 77 by decide)] at e1
      exact e1
    · rw [r1]
      by_cases q : k = i
      · subst q
        rw [if_neg (by omega), if_pos (by omega), I_s, if_pos rfl]
      · rw [I_s, if_neg q, I_wn (show (75 : Nat) ≠ 77 by decide)]
        by_cases q2 : i + 1 ≤ k ∧ k < nc
        · rw [if_pos q2, if_pos (by omega)]
        · rw [if_neg q2, if_neg (by omega)]
/-- the reference takes what it read -/
theorem E_takeM (hN : 1000 ≤ N) (d nc nm : Nat) (h4 : nc ≤ 4) (M : mmM) (h20 : mm_I M 60 20 = nI nc) (h21 : mm_I M 60 21 = nI nm) : ∃ M1, mm_E n xs N (d + 1) 219 [.ref 60] M = some (some (.int (nI nm)), M1) ∧ M1.1 = M.1 ∧ M1.2.1 = M.2.1 ∧ M1.2.2.1 = M.2.2.1 ∧ M1.2.2.2.2.2 = M.2.2.2.2.2 ∧ (∀ b, b ≠ 60 → b ≠ 74 → b ≠ 75 → b ≠ 76 → b ≠ 77 → mm_I M1 b = mm_I M b) ∧ (∀ q, mm_I M1 60 q = if q = 45 then 0 else if q = 32 then 0 else if q = 43 then 0 else if q = 26 then nI nm else if q = 25 then nI nc else mm_I M 60 q) ∧ (∀ k, k < 4 → mm_I M1 74 k = mm_I M 71 k) ∧ (∀ k, k < 8 → mm_I M1 75 k = mm_I M 72 k) ∧ (∀ k, k < 28 → mm_I M1 76 k = mm_I M 73 k) ∧ ∀ k, k < 198 → mm_I M1 77 k = if k = 13 then mm_I M 71 3 else if k = 12 then mm_I M 71 1 else if k < nc then mm_I M 72 (2 * k) else 0 := by
  obtain ⟨g, hg⟩ : ∃ g, N = g + 198 + 1 + 28 + 1 + 8 + 1 + 4 + 1 := ⟨N - 242, by omega⟩
  generalize hM0 : mm_wI (mm_wI M 60 25 (mm_I M 60 20)) 60 26 (mm_I M 60 21) = M0
  have f0 : ∀ b, b ≠ 60 → mm_I M0 b = mm_I M b := fun b hb => by rw [← hM0, I_wn hb, I_wn hb]
  have e60 : ∀ q, mm_I M0 60 q = if q = 26 then nI nm else if q = 25 then nI nc else mm_I M 60 q := fun q => by rw [← hM0, I_s, I_s, h20, h21]
  obtain ⟨M1, e1, x1, r1⟩ := L_tk18 (n := n) (xs := xs) (N := N) d (g + 198 + 1 + 28 + 1 + 8 + 1) 4 0 M0 (by omega)
  obtain ⟨M2, e2, x2, r2⟩ := L_tk43 (n := n) (xs := xs) (N := N) d (g + 198 + 1 + 28 + 1) 8 0 M1 (by omega)
  obtain ⟨M3, e3, x3, r3⟩ := L_tk69 (n := n) (xs := xs) (N := N) d (g + 198 + 1) 28 0 M2 (by omega)
  obtain ⟨M4, e4, x4, r4⟩ := L_tk95 (n := n) (xs := xs) (N := N) d g 198 0 M3 (by omega)
  have c60 : mm_I M4 60 = mm_I M0 60 := by rw [x4.I (by decide), x3.I (by decide), x2.I (by decide), x1.I (by decide)]
  obtain ⟨M5, e5, x5, r5⟩ := L_tk117 (n := n) (xs := xs) (N := N) d nc h4 nc 0 g M4 (by omega) (by omega) (by rw [c60, e60]; rfl)
  have c74 : ∀ k, k < 4 → mm_I M4 74 k = mm_I M 71 k := fun k hk => by rw [x4.I (by decide), x3.I (by decide), x2.I (by decide), r1, if_pos (by omega), f0 71 (by decide)]
  have c75 : ∀ k, k < 8 → mm_I M4 75 k = mm_I M 72 k := fun k hk => by rw [x4.I (by decide), x3.I (by decide), r2, if_pos (by omega), x1.I (by decide), f0 72 (by decide)]
  have c76 : ∀ k, k < 28 → mm_I M4 76 k = mm_I M 73 k := fun k hk => by rw [x4.I (by decide), r3, if_pos (by omega), x2.I (by decide), x1.I (by decide), f0 73 (by decide)]
  rw [nI_0] at e1 e2 e3 e4 e5
  rw [u_X12_takeDuchy, hM0]
  refine ⟨mm_wI (mm_wI (mm_wI (mm_wI (mm_wI M5 77 12 (mm_I M4 74 1)) 77 13 (mm_I M4 74 3)) 60 43 (0 : Int32)) 60 32 (0 : Int32)) 60 45 (0 : Int32), ?_, ?_, ?_, ?_, ?_, fun b b1 b2 b3 b4 b5 => ?_, fun q => ?_, fun k hk => ?_, fun k hk => ?_, fun k hk => ?_, fun k hk => ?_⟩
  · rw [show lp_X12_takeDuchy n xs N d N 18 [some (.ref 60), some (.int (0 : Int32))] [] M0 = lp_X12_takeDuchy n xs N d (g + 198 + 1 + 28 + 1 + 8 + 1 + 4 + 1) 18 [some (.ref 60), some (.int (0 : Int32))] [] M0 from by rw [← hg], e1, e2, e3, e4, e5, c60, e60]
    rfl
  · show M5.1 = _
    rw [x5.1, x4.1, x3.1, x2.1, x1.1, ← hM0]
  · show M5.2.1 = _
    rw [x5.2.1, x4.2.1, x3.2.1, x2.2.1, x1.2.1, ← hM0]
  · show M5.2.2.1 = _
    rw [x5.2.2.1, x4.2.2.1, x3.2.2.1, x2.2.2.1, x1.2.2.1, ← hM0]
  · show M5.2.2.2.2.2 = _
    rw [x5.2.2.2.2.1, x4.2.2.2.2.1, x3.2.2.2.2.1, x2.2.2.2.2.1, x1.2.2.2.2.1, ← hM0]
  · rw [I_wn b1, I_wn b1, I_wn b1, I_wn b5, I_wn b5, x5.I b5, x4.I b5, x3.I b4, x2.I b3, x1.I b2, f0 b b1]
  · rw [I_s, I_s, I_s, I_wn (by decide), I_wn (by decide), x5.I (by decide), c60, e60]
  · rw [I_wn (by decide), I_wn (by decide), I_wn (by decide), I_wn (by decide), I_wn (by decide), x5.I (by decide), c74 k hk]
  · rw [I_wn (by decide), I_wn (by decide), I_wn (by decide), I_wn (by decide), I_wn (by decide), x5.I (by decide), c75 k hk]
  · rw [I_wn (by decide), I_wn (by decide), I_wn (by decide), I_wn (by decide), I_wn (by decide), x5.I (by decide), c76 k hk]
  · rw [I_wn (by decide), I_wn (by decide), I_wn (by decide), I_s, I_s, r5, c74 3 (by omega), c74 1 (by omega)]
    by_cases q1 : k = 13
    · rw [if_pos q1, if_pos q1]
    rw [if_neg q1, if_neg q1]
    by_cases q2 : k = 12
    · rw [if_pos q2, if_pos q2]
    rw [if_neg q2, if_neg q2]
    by_cases q3 : k < nc
    · rw [if_pos (by omega), if_pos q3, c75 (2 * k) (by omega)]
    · rw [if_neg (by omega), if_neg q3, r4, if_pos (by omega)]
end TK
