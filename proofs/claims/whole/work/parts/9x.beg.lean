section BG
variable {n : Nat} {xs : Nat → Int32} {N : Nat}
theorem L_beg (d : Nat) : ∀ (j i f : Nat) (M : mmM), i + j = 4 → j < f → ∃ M1, lp_X0_begin n xs N (d + 3) f 43 [some (.ref 35), some (.ref 32), some (.int (nI i))] [] M = some (none, M1) ∧ S1 37 M M1 ∧ ∀ k, mm_I M1 37 k = if i ≤ k ∧ k < 4 then mm_I M 33 (4 + k * 2 + 0) else mm_I M 37 k := by
  intro j
  induction j with
  | zero =>
    intro i f M hi hf
    obtain ⟨f, rfl⟩ : ∃ g, f = g + 1 := ⟨f - 1, by omega⟩
    have : i = 4 := by omega
    subst this
    refine ⟨M, ?_, S1.rf, fun k => by rw [if_neg (by omega)]⟩
    rw [lu_X0_begin_35_32_43, if_pos (show Int32.ofNat 4 ≤ nI 4 from nI_le (Nat.le_refl _) (by omega))]
  | succ j ih =>
    intro i f M hi hf
    obtain ⟨f, rfl⟩ : ∃ g, f = g + 1 := ⟨f - 1, by omega⟩
    obtain ⟨M1, e1, x1, r1⟩ := ih (i + 1) f (mm_wI M 37 i (mm_I M 33 (4 + i * 2 + 0))) (by omega) (by omega)
    refine ⟨M1, ?_, S1.wI.tr x1, fun k => ?_⟩
    · have ec := E_cookI (n := n) (xs := xs) (N := N) d M i 0 (by omega) (by omega)
      rw [nI_0] at ec
      rw [lu_X0_begin_35_32_43, if_neg (show ¬ Int32.ofNat 4 ≤ nI i from nI_ge (show i < 4 by omega) (by omega)), ec, ra_I, Option.bind_some]
      dsimp only
      rw [mm_inb_nI (n := 4) (by omega) (by omega), nI_clamp (by omega), nI_1, show (true && Nat.ble 16 37) = true from rfl, cond_true]
      exact e1
    · rw [r1]
      by_cases q : k = i
      · subst q
        rw [if_neg (by omega), if_pos (by omega), I_s, if_pos rfl]
      · rw [I_s, if_neg q, I_wn (show (33 : Nat) ≠ 37 by decide)]
        by_cases q2 : i + 1 ≤ k ∧ k < 4
        · rw [if_pos q2, if_pos (by omega)]
        · rw [if_neg q2, if_neg (by omega)]
theorem cpG {f g : Nat → Int32} {L j : Nat} (hj : j < L) : va_cpy f g 0 0 L j = f j := by
  have := pk_cpy_in (f := f) (g := g) (sp := 0) (dp := 0) (n := L) (j := j) (by omega) (by omega)
  rw [Nat.zero_add, Nat.sub_zero] at this
  exact this
/-- the class begins with what it read -/
theorem E_begX (hN : 1000 ≤ N) (d : Nat) (M : mmM) : ∃ M1, mm_E n xs N (d + 5) 103 [.ref 16] M = some (none, M1) ∧ M1.1 = M.1 ∧ M1.2.1 = M.2.1 ∧ M1.2.2.1 = M.2.2.1 ∧ M1.2.2.2.2.2 = M.2.2.2.2.2 ∧ (∀ b, b ≠ 16 → b ≠ 33 → b ≠ 34 → b ≠ 35 → b ≠ 36 → b ≠ 37 → b ≠ 38 → b ≠ 47 → mm_I M1 b = mm_I M b) ∧ (∀ j, j < 40 → mm_I M1 33 j = mm_I M 21 j) ∧ (∀ j, j < 3 → mm_I M1 34 j = mm_I M 22 j) ∧ (∀ j, j ≤ 8 → mm_I M1 35 j = if j = 4 then mm_I M 21 1 else if j = 5 then mm_I M 21 3 else 0) ∧ (∀ c, c < 4 → mm_I M1 36 c = 0) ∧ (∀ c, c < 4 → mm_I M1 37 c = mm_I M 21 (4 + c * 2)) ∧ (∀ q, mm_I M1 38 q = if q = 1 then 0 else mm_I M 38 q) ∧ mm_I M1 47 4 = 0 ∧ (∀ q, mm_I M1 16 q = if q = 17 then 0 else if q = 16 then 1 else mm_I M 16 q) := by
  have e2 : mm_E n xs N (d + 4) 85 [.ref 32, .ref 20] M = some (none, mm_wR (mm_wR M 33 (va_cpy (mm_I M 21) (mm_I M 33) 0 0 40)) 34 (va_cpy (mm_I M 22) (mm_I M 34) 0 0 3)) := by
    rw [u_X10_copyFrom_32_20]
    rfl
  generalize hM2 : mm_wR (mm_wR M 33 (va_cpy (mm_I M 21) (mm_I M 33) 0 0 40)) 34 (va_cpy (mm_I M 22) (mm_I M 34) 0 0 3) = M2 at e2
  have a33 : ∀ j, j < 40 → mm_I M2 33 j = mm_I M 21 j := fun j hj => by
    rw [← hM2, I_R, if_neg (by decide), I_R, if_pos rfl]
    exact cpG hj
  have a34 : ∀ j, j < 3 → mm_I M2 34 j = mm_I M 22 j := fun j hj => by
    rw [← hM2, I_R, if_pos rfl]
    exact cpG hj
  have ao : ∀ b, b ≠ 33 → b ≠ 34 → mm_I M2 b = mm_I M b := fun b b1 b2 => by rw [← hM2, I_R, if_neg b2, I_R, if_neg b1]
  obtain ⟨M3, e3, g1, g2, g3, g4, g5, g6, g7, g8⟩ := E_mornX (n := n) (xs := xs) (N := N) hN (d + 1) M2
  have h33 : mm_I M3 33 = mm_I M2 33 := g6 33 (by decide) (by decide)
  have r1 : mm_E n xs N (d + 3) 94 [.ref 32, .int 0, .int 0, .int 1] M3 = some (some (.int (mm_I M3 33 1)), M3) := E_rule d M3 1 (by omega)
  generalize hM4 : mm_wI M3 35 4 (mm_I M3 33 1) = M4
  have r3 : mm_E n xs N (d + 3) 94 [.ref 32, .int 0, .int 0, .int 3] M4 = some (some (.int (mm_I M4 33 3)), M4) := E_rule d M4 3 (by omega)
  have h43 : mm_I M4 33 = mm_I M2 33 := by rw [← hM4, I_wn (by decide)]; exact h33
  generalize hM5 : mm_wI (mm_wI (mm_wI (mm_wI M4 35 5 (mm_I M4 33 3)) 35 6 (0 : Int32)) 35 7 (0 : Int32)) 35 8 (0 : Int32) = M5
  have b5 : ∀ b, b ≠ 35 → b ≠ 36 → mm_I M5 b = mm_I M2 b := fun b b1 b2 => by
    rw [← hM5, I_wn b1, I_wn b1, I_wn b1, I_wn b1, ← hM4, I_wn b1]; exact g6 b b1 b2
  obtain ⟨M6, e6, x6, r6⟩ := L_beg (n := n) (xs := xs) (N := N) d 4 0 N M5 (by omega) (by omega)
  rw [nI_0] at e6
  have eb : mm_E n xs N (d + 4) 1 [.ref 35, .ref 32] M2 = some (none, M6) := by
    rw [u_X0_begin_35_32, e3, ra_V, Option.bind_some, r1, ra_I, Option.bind_some]
    dsimp only
    rw [hM4, r3, ra_I, Option.bind_some]
    dsimp only
    rw [hM5]
    exact e6
  have b6 : ∀ b, b ≠ 35 → b ≠ 36 → b ≠ 37 → mm_I M6 b = mm_I M2 b := fun b b1 b2 b3 => (x6.I b3).trans (b5 b b1 b2)
  refine ⟨mm_wI (mm_wI (mm_wI (mm_wI M6 38 1 (0 : Int32)) 47 4 (0 : Int32)) 16 16 (1 : Int32)) 16 17 (0 : Int32), ?_, ?_, ?_, ?_, ?_, fun b b1 b2 b3 b4 b5 b6' b7 b8 => ?_, fun j hj => ?_, fun j hj => ?_, fun j hj => ?_, fun c hc => ?_, fun c hc => ?_, fun q => ?_, ?_, fun q => ?_⟩
  · rw [u_X11_beginDuchy, u_X2_read, ra_R, Option.bind_some]
    dsimp only
    rw [e2, ra_V, Option.bind_some, eb, ra_V, Option.bind_some, u_X6_clear, ra_V, Option.bind_some, u_X8_clear, ra_V, Option.bind_some]
  · show M6.1 = _
    rw [x6.1, ← hM5]
    show M4.1 = _
    rw [← hM4]
    show M3.1 = _
    rw [g1, ← hM2]
  · show M6.2.1 = _
    rw [x6.2.1, ← hM5]
    show M4.2.1 = _
    rw [← hM4]
    show M3.2.1 = _
    rw [g2, ← hM2]
  · show M6.2.2.1 = _
    rw [x6.2.2.1, ← hM5]
    show M4.2.2.1 = _
    rw [← hM4]
    show M3.2.2.1 = _
    rw [g3, ← hM2]
  · show M6.2.2.2.2.2 = _
    rw [x6.2.2.2.2.1, ← hM5]
    show M4.2.2.2.2.2 = _
    rw [← hM4]
    show M3.2.2.2.2.2 = _
    rw [g5, ← hM2]
  · rw [I_wn b1, I_wn b1, I_wn b8, I_wn b7, b6 b b4 b5 b6', ao b b2 b3]
  · rw [I_wn (by decide), I_wn (by decide), I_wn (by decide), I_wn (by decide), b6 33 (by decide) (by decide) (by decide), a33 j hj]
  · rw [I_wn (by decide), I_wn (by decide), I_wn (by decide), I_wn (by decide), b6 34 (by decide) (by decide) (by decide), a34 j hj]
  · rw [I_wn (by decide), I_wn (by decide), I_wn (by decide), I_wn (by decide), x6.I (by decide), ← hM5, I_s, I_s, I_s, I_s, ← hM4, I_s, g7, I_wn (show (33 : Nat) ≠ 35 by decide), h33, a33 1 (by omega), a33 3 (by omega)]
    rcases (show j = 0 ∨ j = 1 ∨ j = 2 ∨ j = 3 ∨ j = 4 ∨ j = 5 ∨ j = 6 ∨ j = 7 ∨ j = 8 by omega) with rfl | rfl | rfl | rfl | rfl | rfl | rfl | rfl | rfl <;> rfl
  · rw [I_wn (by decide), I_wn (by decide), I_wn (by decide), I_wn (by decide), x6.I (by decide), ← hM5, I_wn (by decide), I_wn (by decide), I_wn (by decide), I_wn (by decide), ← hM4, I_wn (by decide), g8, if_pos hc]
  · rw [I_wn (by decide), I_wn (by decide), I_wn (by decide), I_wn (by decide), r6, if_pos (by omega), b5 33 (by decide) (by decide), a33 _ (by omega), Nat.add_zero]
  · rw [I_wn (by decide), I_wn (by decide), I_wn (by decide), I_s, b6 38 (by decide) (by decide) (by decide), ao 38 (by decide) (by decide)]
  · rw [I_wn (by decide), I_wn (by decide), I_s, if_pos rfl]
  · rw [I_s, I_s, I_wn (by decide), I_wn (by decide), b6 16 (by decide) (by decide) (by decide), ao 16 (by decide) (by decide)]
end BG
