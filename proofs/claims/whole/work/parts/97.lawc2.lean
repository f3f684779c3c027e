section LC2
variable {n : Nat} {xs : Nat → Int32} {N : Nat} {T : Nat → Int32} {s : Nat}
theorem E_isC (d : Nat) (M : mmM) (c : Int32) : mm_E n xs N (d + 1) 28 [.int c] M = some (some (.int (mb (isC c))), M) := by
  rw [u_X3_isComparison]
  unfold isC
  by_cases a1 : c = 61
  · subst a1; rfl
  rw [if_neg a1]
  by_cases a2 : c = 60
  · subst a2; rfl
  rw [if_neg a2]
  by_cases a3 : c = 62
  · subst a3; rfl
  rw [if_neg a3, beq_eq_false_iff_ne.mpr a1, beq_eq_false_iff_ne.mpr a2, beq_eq_false_iff_ne.mpr a3]
  rfl
theorem E_cmpX (hN : 1000 ≤ N) (d g : Nat) {y1 : Int32} (hA : SPX T s (fun M => mm_E n xs N (d + 4) 29 [.ref 23, .int y1] M) (sumD T s g)) : SPX T s (fun M => mm_E n xs N (d + 5) 27 [.ref 23, .int y1] M) (cmpP T s g) := by
  intro M a w hT ha has hw hwl
  have k1 := sk_ge T s a
  have k2 := sk_le (T := T) has
  have hs240 := hT.1
  obtain ⟨M1, e1, x1⟩ := E_lookX (n := n) (xs := xs) (N := N) hN (d + 3) hT ha has
  dsimp only
  unfold cmpP
  rw [u_X3_isComparedNext, e1, ra_I, Option.bind_some]
  dsimp only
  rw [E_isC (d + 3), ra_I, Option.bind_some]
  dsimp only
  cases hc : isC (cu T s (sk T s a)) with
  | false =>
    rw [if_pos (show mb false = 0 by decide), if_neg (by decide)]
    exact ⟨(fun p e => by cases e; exact ⟨M1, rfl, x1.lx, x1.pl⟩), (fun a' w' e => by cases e)⟩
  | true =>
    have hlt := cu_lt (T := T) (s := s) (a := sk T s a) rfl (isC_t hc).1
    have x2 : XT M1 (mm_wI M1 17 2 (nI (sk T s a + 1))) (sk T s a + 1) := XT.w
    rw [if_neg (show ¬ mb true = 0 by decide), if_pos rfl, E_stepX (d + 3) x1.pl, ra_V, Option.bind_some]
    obtain ⟨q1, q2⟩ := hA _ (sk T s a + 1) w ((hT.xt x1).xt x2) x2.pl (by omega) ((hw.xt x1).xt x2) (by omega)
    cases hr : sumD T s g (sk T s a + 1) w with
    | inl p =>
      obtain ⟨M3, e3, x3, y3⟩ := q1 p hr
      dsimp only at e3
      rw [e3, ra_I, Option.bind_some]
      dsimp only
      rw [if_pos rfl]
      exact ⟨(fun p e => by cases e; exact ⟨M3, rfl, (x1.lx.tr x2.lx).tr x3, y3⟩), (fun a' w' e => by cases e)⟩
    | inr v =>
      obtain ⟨b, w1⟩ := v
      obtain ⟨M3, e3, x3, y3, z3⟩ := q2 b w1 hr
      obtain ⟨hb, l, g2, g3, _⟩ := (GP_sumD (T := T) (s := s) g (sk T s a + 1) w (by omega)).2 b w1 hr
      have hl1 : w1.length + 1 ≤ b := by rw [g2, List.length_append]; omega
      dsimp only at e3
      rw [e3, ra_I, Option.bind_some]
      dsimp only
      rw [if_neg (by decide)]
      obtain ⟨M4, e4, x4, y4, z4⟩ := E_writeL (n := n) (xs := xs) (N := N) (d + 3) (-(cu T s (sk T s a))) z3 (by omega)
      rw [e4, ra_V, Option.bind_some]
      exact ⟨(fun p e => by cases e), (fun a' w' e => by cases e; exact ⟨M4, rfl, ((x1.lx.tr x2.lx).tr x3).tr x4, by rw [y4]; exact y3, z4⟩)⟩
end LC2
