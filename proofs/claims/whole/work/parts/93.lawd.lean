section LD
variable {n : Nat} {xs : Nat → Int32} {N : Nat} {T : Nat → Int32} {s : Nat}
theorem E_atomX (hN : 1000 ≤ N) (d D : Nat) (hD : D ≤ 6) {sub : Option (Nat → List Int32 → RL)} (h6 : sub = none → D = 6) (hs : ∀ f, sub = some f → D < 6 ∧ GP s 40 false f ∧ SPX T s (fun M => mm_E n xs N (d + 3) 29 [.ref 23, .int (nI (D + 1))] M) f) : SPX T s (fun M => mm_E n xs N (d + 4) 31 [.ref 23, .int (nI D)] M) (atomP T s sub) := by
  intro M a w hT ha has hw hwl
  have k1 := sk_ge T s a
  have k2 := sk_le (T := T) has
  have hs240 := hT.1
  obtain ⟨M1, e1, x1⟩ := E_lookX (n := n) (xs := xs) (N := N) hN (d + 2) hT ha has
  have hT1 := hT.xt x1
  have hw1 := hw.xt x1
  dsimp only
  unfold atomP
  rw [u_X3_isAtomNext, e1, ra_I, Option.bind_some]
  dsimp only
  rw [E_dgX (d + 2), ra_I, Option.bind_some]
  dsimp only
  by_cases c1 : dg (cu T s (sk T s a)) = true
  · have hlt : sk T s a < s := by
      apply Decidable.byContradiction
      intro q
      rw [cu_out (by omega), dg_m1] at c1
      cases c1
    rw [c1, if_neg (show ¬ mb true = 0 by decide), if_pos rfl]
    obtain ⟨M2, e2, x2⟩ := E_nmX (n := n) (xs := xs) (N := N) hN (d + 1) 4 (by omega) (by omega) hT1 x1.pl k2 c1
    rw [show nI 4 = (4 : Int32) from by decide] at e2
    rw [e2, ra_I, Option.bind_some]
    dsimp only
    obtain ⟨M3, e3, x3, y3, z3⟩ := E_writeL (n := n) (xs := xs) (N := N) (d + 2) (if dg (cu T s (nmF T s 4 (sk T s a) 0).1) = true then -1 else nI (nmF T s 4 (sk T s a) 0).2) (hw1.xt x2) (by omega)
    rw [e3, ra_V, Option.bind_some]
    have fr : LXf M M3 := (x1.lx.tr x2.lx).tr x3
    have pl : mm_I M3 17 2 = nI (nmF T s 4 (sk T s a) 0).1 := by rw [y3]; exact x2.pl
    have hv := nmF_v T s 4 (sk T s a) 0
    by_cases c2 : dg (cu T s (nmF T s 4 (sk T s a) 0).1) = true
    · rw [if_pos c2, if_pos c2, if_pos rfl]
      exact ⟨(fun p e => by cases e; exact ⟨M3, rfl, fr, pl⟩), (fun a' w' e => by cases e)⟩
    · rw [if_neg c2] at z3
      rw [if_neg c2, if_neg c2, if_neg (fun q => nI_pos (n := (nmF T s 4 (sk T s a) 0).2) (by omega) (by rw [q]; decide))]
      exact ⟨(fun p e => by cases e), (fun a' w' e => by cases e; exact ⟨M3, rfl, fr, pl, z3⟩)⟩
  have c1f : dg (cu T s (sk T s a)) = false := by
    cases hh : dg (cu T s (sk T s a)) with
    | true => exact absurd hh c1
    | false => rfl
  rw [c1f, if_pos (show mb false = 0 by decide), if_neg (by decide), E_ltX (d + 2), ra_I, Option.bind_some]
  dsimp only
  cases c2 : (ltr (-(cu T s (sk T s a)))).isSome with
  | true =>
    have hlt : sk T s a < s := by
      apply Decidable.byContradiction
      intro q
      rw [cu_out (by omega)] at c2
      exact absurd c2 (by decide)
    rw [if_neg (show ¬ mb true = 0 by decide), if_pos rfl, E_stepX (d + 2) x1.pl, ra_V, Option.bind_some]
    obtain ⟨M3, e3, x3, y3, z3⟩ := E_writeL (n := n) (xs := xs) (N := N) (M := mm_wI M1 17 2 (nI (sk T s a + 1))) (d + 2) (-(cu T s (sk T s a))) (hw1.xt XT.w) (by omega)
    rw [e3, ra_V, Option.bind_some]
    exact ⟨(fun p e => by cases e), (fun a' w' e => by cases e; exact ⟨M3, rfl, (x1.lx.tr XT.w.lx).tr x3, by rw [y3]; exact XT.w.pl, z3⟩)⟩
  | false =>
    rw [if_pos (show mb false = 0 by decide), if_neg (by decide)]
    by_cases c3 : cu T s (sk T s a) = 91
    · have hlt := cu_lt c3 (by decide)
      rw [if_pos c3, if_pos c3]
      cases sub with
      | none =>
        rw [if_neg (show ¬ nI D < (6 : Int32) from by rw [h6 rfl]; decide)]
        exact ⟨(fun p e => by cases e; exact ⟨M1, rfl, x1.lx, x1.pl⟩), (fun a' w' e => by cases e)⟩
      | some f =>
        obtain ⟨hD6, hG, hF⟩ := hs f rfl
        rw [if_pos (show nI D < (6 : Int32) from nI_lt (b := 6) hD6 (by omega)), E_stepX (d + 2) x1.pl, ra_V, Option.bind_some, nI_1]
        have x2 : XT M1 (mm_wI M1 17 2 (nI (sk T s a + 1))) (sk T s a + 1) := XT.w
        obtain ⟨q1, q2⟩ := hF _ (sk T s a + 1) w (hT1.xt x2) x2.pl (by omega) (hw1.xt x2) (by omega)
        cases hr : f (sk T s a + 1) w with
        | inl p =>
          obtain ⟨M3, e3, x3, y3⟩ := q1 p hr
          dsimp only at e3
          rw [e3, ra_I, Option.bind_some]
          dsimp only
          rw [if_pos rfl, hr]
          exact ⟨(fun p e => by cases e; exact ⟨M3, rfl, (x1.lx.tr x2.lx).tr x3, y3⟩), (fun a' w' e => by cases e)⟩
        | inr v =>
          obtain ⟨b, w1⟩ := v
          obtain ⟨M3, e3, x3, y3, z3⟩ := q2 b w1 hr
          obtain ⟨hb, _⟩ := (hG (sk T s a + 1) w (by omega)).2 b w1 hr
          dsimp only at e3
          rw [e3, ra_I, Option.bind_some]
          dsimp only
          rw [if_neg (by decide)]
          obtain ⟨M4, e4, x4⟩ := E_takeS (n := n) (xs := xs) (N := N) hN (d + 1) ((hT1.xt x2).lx x3) y3 hb 93
          rw [e4, ra_I, Option.bind_some, hr]
          dsimp only
          have fr : LXf M M4 := ((x1.lx.tr x2.lx).tr x3).tr x4.lx
          show (∀ p, mustP T s 93 b w1 = .inl p → _) ∧ ∀ a' w', mustP T s 93 b w1 = .inr (a', w') → _
          unfold mustP
          by_cases c4 : cu T s (sk T s b) = 93
          · rw [if_pos c4] at x4
            rw [if_pos c4, decide_eq_true c4, if_neg (show ¬ mb true = 0 by decide)]
            exact ⟨(fun p e => by cases e), (fun a' w' e => by cases e; exact ⟨M4, rfl, fr, x4.pl, z3.xt x4⟩)⟩
          · rw [if_neg c4] at x4
            rw [if_neg c4, decide_eq_false c4, if_pos (show mb false = 0 by decide)]
            exact ⟨(fun p e => by cases e; exact ⟨M4, rfl, fr, x4.pl⟩), (fun a' w' e => by cases e)⟩
    · rw [if_neg c3, if_neg c3]
      exact ⟨(fun p e => by cases e; exact ⟨M1, rfl, x1.lx, x1.pl⟩), (fun a' w' e => by cases e)⟩
end LD
