section LO
variable {n : Nat} {xs : Nat → Int32} {N : Nat} {T : Nat → Int32} {s : Nat}
theorem L_unitsX (hN : 1000 ≤ N) (d : Nat) {y1 : Int32} {P : Nat → List Int32 → RL} {h : Nat} (hG : GP s h true P) (hA : SPX T s (fun M => mm_E n xs N (d + 4) 26 [.ref 23, .int y1] M) P) : ∀ (j i f : Nat), i + j = 240 → j < f → SPX T s (fun M => lp_X3_areUnitsNext n xs N (d + 4) f 2 [some (.ref 23), some (.int y1), some (.int (nI i))] [] M) (loopP T s P 38 38 j)
  | 0, i, f, hi, hf => by
    intro M a w hT ha has hw hwl
    obtain ⟨f, rfl⟩ : ∃ g, f = g + 1 := ⟨f - 1, by omega⟩
    dsimp only
    rw [lu_X3_areUnitsNext_2, if_pos (show (240 : Int32) ≤ nI i from by rw [show i = 240 by omega]; decide)]
    exact ⟨(fun p e => by cases e), (fun a' w' e => by cases e; exact ⟨M, rfl, LXf.rf, ha, hw⟩)⟩
  | j + 1, i, f, hi, hf => by
    intro M a w hT ha has hw hwl
    obtain ⟨f, rfl⟩ : ∃ g, f = g + 1 := ⟨f - 1, by omega⟩
    have k1 := sk_ge T s a
    have k2 := sk_le (T := T) has
    have hs240 := hT.1
    obtain ⟨M1, e1, x1⟩ := E_takeS (n := n) (xs := xs) (N := N) hN (d + 2) hT ha has 38
    dsimp only
    rw [lu_X3_areUnitsNext_2, if_neg (show ¬ (240 : Int32) ≤ nI i from fun q => by have := (nI_leI (a := 240) (by omega) (by omega)).mp q; omega), e1, ra_I, Option.bind_some, nI_1]
    dsimp only
    unfold loopP
    by_cases hc : cu T s (sk T s a) = 38
    · have hlt : sk T s a < s := cu_lt hc (by decide)
      rw [if_pos hc] at x1
      rw [if_pos (Or.inl hc), decide_eq_true hc, if_neg (show ¬ mb true = 0 by decide)]
      obtain ⟨q1, q2⟩ := hA _ (sk T s a + 1) w (hT.xt x1) x1.pl (by omega) (hw.xt x1) (by omega)
      cases hr : P (sk T s a + 1) w with
      | inl p =>
        obtain ⟨M3, e3, x3, y3⟩ := q1 p hr
        dsimp only at e3
        rw [e3, ra_I, Option.bind_some]
        dsimp only
        rw [if_pos rfl]
        exact ⟨(fun p e => by cases e; exact ⟨M3, rfl, x1.lx.tr x3, y3⟩), (fun a' w' e => by cases e)⟩
      | inr v =>
        obtain ⟨b, w1⟩ := v
        obtain ⟨M3, e3, x3, y3, z3⟩ := q2 b w1 hr
        obtain ⟨hb, l, g2, g3, _⟩ := (hG (sk T s a + 1) w (by omega)).2 b w1 hr
        have hl1 : w1.length + 1 ≤ b := by rw [g2, List.length_append]; omega
        dsimp only at e3
        rw [e3, ra_I, Option.bind_some]
        dsimp only
        rw [if_neg (by decide)]
        obtain ⟨M4, e4, x4, y4, z4⟩ := E_writeL (n := n) (xs := xs) (N := N) (d + 3) (-38) z3 (by omega)
        rw [e4, ra_V, Option.bind_some]
        have fr : LXf M M4 := (x1.lx.tr x3).tr x4
        obtain ⟨u1, u2⟩ := L_unitsX hN d hG hA j (i + 1) f (by omega) (by omega) M4 b (w1 ++ [-38]) (hT.lx fr) (by rw [y4]; exact y3) hb z4 (by rw [List.length_append, List.length_cons, List.length_nil]; omega)
        rw [hc]
        refine ⟨fun p e => ?_, fun a' w' e => ?_⟩
        · obtain ⟨M5, m1, m2, m3⟩ := u1 p e
          exact ⟨M5, m1, fr.tr m2, m3⟩
        · obtain ⟨M5, m1, m2, m3, m4⟩ := u2 a' w' e
          exact ⟨M5, m1, fr.tr m2, m3, m4⟩
    · rw [if_neg hc] at x1
      rw [if_neg (fun q => q.elim hc hc), decide_eq_false hc, if_pos (show mb false = 0 by decide)]
      exact ⟨(fun p e => by cases e), (fun a' w' e => by cases e; exact ⟨M1, rfl, x1.lx, x1.pl, hw.xt x1⟩)⟩
theorem L_truthsX (hN : 1000 ≤ N) (d : Nat) {y1 : Int32} {P : Nat → List Int32 → RL} {h : Nat} (hG : GP s h true P) (hA : SPX T s (fun M => mm_E n xs N (d + 4) 24 [.ref 23, .int y1] M) P) : ∀ (j i f : Nat), i + j = 240 → j < f → SPX T s (fun M => lp_X3_areTruthsNext n xs N (d + 4) f 2 [some (.ref 23), some (.int y1), some (.int (nI i))] [] M) (loopP T s P 124 124 j)
  | 0, i, f, hi, hf => by
    intro M a w hT ha has hw hwl
    obtain ⟨f, rfl⟩ : ∃ g, f = g + 1 := ⟨f - 1, by omega⟩
    dsimp only
    rw [lu_X3_areTruthsNext_2, if_pos (show (240 : Int32) ≤ nI i from by rw [show i = 240 by omega]; decide)]
    exact ⟨(fun p e => by cases e), (fun a' w' e => by cases e; exact ⟨M, rfl, LXf.rf, ha, hw⟩)⟩
  | j + 1, i, f, hi, hf => by
    intro M a w hT ha has hw hwl
    obtain ⟨f, rfl⟩ : ∃ g, f = g + 1 := ⟨f - 1, by omega⟩
    have k1 := sk_ge T s a
    have k2 := sk_le (T := T) has
    have hs240 := hT.1
    obtain ⟨M1, e1, x1⟩ := E_takeS (n := n) (xs := xs) (N := N) hN (d + 2) hT ha has 124
    dsimp only
    rw [lu_X3_areTruthsNext_2, if_neg (show ¬ (240 : Int32) ≤ nI i from fun q => by have := (nI_leI (a := 240) (by omega) (by omega)).mp q; omega), e1, ra_I, Option.bind_some, nI_1]
    dsimp only
    unfold loopP
    by_cases hc : cu T s (sk T s a) = 124
    · have hlt : sk T s a < s := cu_lt hc (by decide)
      rw [if_pos hc] at x1
      rw [if_pos (Or.inl hc), decide_eq_true hc, if_neg (show ¬ mb true = 0 by decide)]
      obtain ⟨q1, q2⟩ := hA _ (sk T s a + 1) w (hT.xt x1) x1.pl (by omega) (hw.xt x1) (by omega)
      cases hr : P (sk T s a + 1) w with
      | inl p =>
        obtain ⟨M3, e3, x3, y3⟩ := q1 p hr
        dsimp only at e3
        rw [e3, ra_I, Option.bind_some]
        dsimp only
        rw [if_pos rfl]
        exact ⟨(fun p e => by cases e; exact ⟨M3, rfl, x1.lx.tr x3, y3⟩), (fun a' w' e => by cases e)⟩
      | inr v =>
        obtain ⟨b, w1⟩ := v
        obtain ⟨M3, e3, x3, y3, z3⟩ := q2 b w1 hr
        obtain ⟨hb, l, g2, g3, _⟩ := (hG (sk T s a + 1) w (by omega)).2 b w1 hr
        have hl1 : w1.length + 1 ≤ b := by rw [g2, List.length_append]; omega
        dsimp only at e3
        rw [e3, ra_I, Option.bind_some]
        dsimp only
        rw [if_neg (by decide)]
        obtain ⟨M4, e4, x4, y4, z4⟩ := E_writeL (n := n) (xs := xs) (N := N) (d + 3) (-124) z3 (by omega)
        rw [e4, ra_V, Option.bind_some]
        have fr : LXf M M4 := (x1.lx.tr x3).tr x4
        obtain ⟨u1, u2⟩ := L_truthsX hN d hG hA j (i + 1) f (by omega) (by omega) M4 b (w1 ++ [-124]) (hT.lx fr) (by rw [y4]; exact y3) hb z4 (by rw [List.length_append, List.length_cons, List.length_nil]; omega)
        rw [hc]
        refine ⟨fun p e => ?_, fun a' w' e => ?_⟩
        · obtain ⟨M5, m1, m2, m3⟩ := u1 p e
          exact ⟨M5, m1, fr.tr m2, m3⟩
        · obtain ⟨M5, m1, m2, m3, m4⟩ := u2 a' w' e
          exact ⟨M5, m1, fr.tr m2, m3, m4⟩
    · rw [if_neg hc] at x1
      rw [if_neg (fun q => q.elim hc hc), decide_eq_false hc, if_pos (show mb false = 0 by decide)]
      exact ⟨(fun p e => by cases e), (fun a' w' e => by cases e; exact ⟨M1, rfl, x1.lx, x1.pl, hw.xt x1⟩)⟩
end LO
