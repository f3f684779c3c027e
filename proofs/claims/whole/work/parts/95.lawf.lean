section LF
variable {n : Nat} {xs : Nat → Int32} {N : Nat} {T : Nat → Int32} {s : Nat}
theorem L_sumX (hN : 1000 ≤ N) (d : Nat) {y1 : Int32} {P : Nat → List Int32 → RL} {h : Nat} (hG : GP s h false P) (hA : SPX T s (fun M => mm_E n xs N (d + 4) 30 [.ref 23, .int y1] M) P) : ∀ (j i f : Nat), i + j = 240 → j < f → SPX T s (fun M => lp_X3_isSumNext n xs N (d + 4) f 12 [some (.ref 23), some (.int y1), some (.int (nI i)), none] [] M) (loopP T s P 43 45 j)
  | 0, i, f, hi, hf => by
    intro M a w hT ha has hw hwl
    obtain ⟨f, rfl⟩ : ∃ g, f = g + 1 := ⟨f - 1, by omega⟩
    dsimp only
    rw [lu_X3_isSumNext_12, if_pos (show (240 : Int32) ≤ nI i from by rw [show i = 240 by omega]; decide)]
    exact ⟨(fun p e => by cases e), (fun a' w' e => by cases e; exact ⟨M, rfl, LXf.rf, ha, hw⟩)⟩
  | j + 1, i, f, hi, hf => by
    intro M a w hT ha has hw hwl
    obtain ⟨f, rfl⟩ : ∃ g, f = g + 1 := ⟨f - 1, by omega⟩
    have k1 := sk_ge T s a
    have k2 := sk_le (T := T) has
    have hs240 := hT.1
    obtain ⟨M1, e1, x1⟩ := E_lookX (n := n) (xs := xs) (N := N) hN (d + 3) hT ha has
    dsimp only
    rw [lu_X3_isSumNext_12, if_neg (show ¬ (240 : Int32) ≤ nI i from fun q => by have := (nI_leI (a := 240) (by omega) (by omega)).mp q; omega), e1, ra_I, Option.bind_some, nI_1]
    dsimp only
    unfold loopP
    by_cases hc : cu T s (sk T s a) = 43 ∨ cu T s (sk T s a) = 45
    · have hlt : sk T s a < s := by
        rcases hc with q | q
        · exact cu_lt q (by decide)
        · exact cu_lt q (by decide)
      have x2 : XT M1 (mm_wI M1 17 2 (nI (sk T s a + 1))) (sk T s a + 1) := XT.w
      rw [if_pos hc, ite_or hc, E_stepX (d + 3) x1.pl, ra_V, Option.bind_some]
      obtain ⟨q1, q2⟩ := hA _ (sk T s a + 1) w ((hT.xt x1).xt x2) x2.pl (by omega) ((hw.xt x1).xt x2) (by omega)
      cases hr : P (sk T s a + 1) w with
      | inl p =>
        obtain ⟨M3, e3, x3, y3⟩ := q1 p hr
        dsimp only at e3
        rw [e3, ra_I, Option.bind_some]
        dsimp only
        rw [if_pos rfl]
        exact ⟨(fun p e => by cases e; exact ⟨M3, rfl, (x1.lx.tr x2.lx).tr x3, y3⟩), (fun a' w' e => by cases e)⟩
      | inr v =>
        obtain ⟨b, w1⟩ := v
        obtain ⟨M3, e3, x3, y3, z3⟩ := q2 b w1 hr
        obtain ⟨hb, l, g2, g3, _⟩ := (hG (sk T s a + 1) w (by omega)).2 b w1 hr
        have hl1 : w1.length + 1 ≤ b := by rw [g2, List.length_append]; omega
        dsimp only at e3
        rw [e3, ra_I, Option.bind_some]
        dsimp only
        rw [if_neg (by decide)]
        obtain ⟨M4, e4, x4, y4, z4⟩ := E_writeL (n := n) (xs := xs) (N := N) (d + 3) (-(cu T s (sk T s a))) z3 (by omega)
        rw [e4, ra_V, Option.bind_some]
        have fr : LXf M M4 := ((x1.lx.tr x2.lx).tr x3).tr x4
        obtain ⟨u1, u2⟩ := L_sumX hN d hG hA j (i + 1) f (by omega) (by omega) M4 b (w1 ++ [-(cu T s (sk T s a))]) (hT.lx fr) (by rw [y4]; exact y3) hb z4 (by rw [List.length_append, List.length_cons, List.length_nil]; omega)
        refine ⟨fun p e => ?_, fun a' w' e => ?_⟩
        · obtain ⟨M5, m1, m2, m3⟩ := u1 p e
          exact ⟨M5, m1, fr.tr m2, m3⟩
        · obtain ⟨M5, m1, m2, m3, m4⟩ := u2 a' w' e
          exact ⟨M5, m1, fr.tr m2, m3, m4⟩
    · rw [if_neg hc, if_neg (fun q => hc (Or.inl q)), if_neg (fun q => hc (Or.inr q))]
      exact ⟨(fun p e => by cases e), (fun a' w' e => by cases e; exact ⟨M1, rfl, x1.lx, x1.pl, hw.xt x1⟩)⟩
theorem E_termX (hN : 1000 ≤ N) (d : Nat) {y1 : Int32} {P : Nat → List Int32 → RL} {h : Nat} (hG : GP s h false P) (hA : SPX T s (fun M => mm_E n xs N (d + 4) 31 [.ref 23, .int y1] M) P) : SPX T s (fun M => mm_E n xs N (d + 5) 30 [.ref 23, .int y1] M) (fun a w => thenR (P a w) (loopP T s P 42 47 240)) := by
  intro M a w hT ha has hw hwl
  obtain ⟨q1, q2⟩ := hA M a w hT ha has hw hwl
  dsimp only
  rw [u_X3_isTermNext]
  cases hr : P a w with
  | inl p =>
    obtain ⟨M3, e3, x3, y3⟩ := q1 p hr
    dsimp only at e3
    rw [e3, ra_I, Option.bind_some]
    dsimp only
    rw [if_pos rfl]
    exact ⟨(fun p e => by cases e; exact ⟨M3, rfl, x3, y3⟩), (fun a' w' e => by cases e)⟩
  | inr v =>
    obtain ⟨b, w1⟩ := v
    obtain ⟨M3, e3, x3, y3, z3⟩ := q2 b w1 hr
    obtain ⟨hb, l, g2, g3, _⟩ := (hG a w has).2 b w1 hr
    dsimp only at e3
    rw [e3, ra_I, Option.bind_some]
    dsimp only
    rw [if_neg (by decide)]
    obtain ⟨u1, u2⟩ := L_termX (n := n) (xs := xs) (N := N) hN d hG hA 240 0 N (by omega) (by omega) M3 b w1 (hT.lx x3) y3 hb z3 (by rw [g2, List.length_append]; omega)
    dsimp only at u1 u2
    rw [nI_0] at u1 u2
    refine ⟨fun p e => ?_, fun a' w' e => ?_⟩
    · obtain ⟨M5, m1, m2, m3⟩ := u1 p e
      exact ⟨M5, m1, x3.tr m2, m3⟩
    · obtain ⟨M5, m1, m2, m3, m4⟩ := u2 a' w' e
      exact ⟨M5, m1, x3.tr m2, m3, m4⟩
theorem E_sumX (hN : 1000 ≤ N) (d : Nat) {y1 : Int32} {P : Nat → List Int32 → RL} {h : Nat} (hG : GP s h false P) (hA : SPX T s (fun M => mm_E n xs N (d + 4) 30 [.ref 23, .int y1] M) P) : SPX T s (fun M => mm_E n xs N (d + 5) 29 [.ref 23, .int y1] M) (fun a w => thenR (P a w) (loopP T s P 43 45 240)) := by
  intro M a w hT ha has hw hwl
  obtain ⟨q1, q2⟩ := hA M a w hT ha has hw hwl
  dsimp only
  rw [u_X3_isSumNext]
  cases hr : P a w with
  | inl p =>
    obtain ⟨M3, e3, x3, y3⟩ := q1 p hr
    dsimp only at e3
    rw [e3, ra_I, Option.bind_some]
    dsimp only
    rw [if_pos rfl]
    exact ⟨(fun p e => by cases e; exact ⟨M3, rfl, x3, y3⟩), (fun a' w' e => by cases e)⟩
  | inr v =>
    obtain ⟨b, w1⟩ := v
    obtain ⟨M3, e3, x3, y3, z3⟩ := q2 b w1 hr
    obtain ⟨hb, l, g2, g3, _⟩ := (hG a w has).2 b w1 hr
    dsimp only at e3
    rw [e3, ra_I, Option.bind_some]
    dsimp only
    rw [if_neg (by decide)]
    obtain ⟨u1, u2⟩ := L_sumX (n := n) (xs := xs) (N := N) hN d hG hA 240 0 N (by omega) (by omega) M3 b w1 (hT.lx x3) y3 hb z3 (by rw [g2, List.length_append]; omega)
    dsimp only at u1 u2
    rw [nI_0] at u1 u2
    refine ⟨fun p e => ?_, fun a' w' e => ?_⟩
    · obtain ⟨M5, m1, m2, m3⟩ := u1 p e
      exact ⟨M5, m1, x3.tr m2, m3⟩
    · obtain ⟨M5, m1, m2, m3, m4⟩ := u2 a' w' e
      exact ⟨M5, m1, x3.tr m2, m3, m4⟩
end LF
