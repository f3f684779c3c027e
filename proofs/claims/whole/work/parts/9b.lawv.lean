section LV
variable {n : Nat} {xs : Nat → Int32} {N : Nat} {T : Nat → Int32} {s : Nat}
theorem E_mustX (hN : 1000 ≤ N) (d : Nat) (c : Int32) : SPX T s (fun M => mm_E n xs N (d + 2) 79 [.ref 17, .int c] M) (mustP T s c) := by
  intro M a w hT ha has hw hwl
  obtain ⟨M4, e4, x4⟩ := E_takeS (n := n) (xs := xs) (N := N) hN d hT ha has c
  dsimp only
  rw [e4]
  unfold mustP
  by_cases c4 : cu T s (sk T s a) = c
  · rw [if_pos c4] at x4
    rw [if_pos c4, decide_eq_true c4]
    exact ⟨(fun p e => by cases e), (fun a' w' e => by cases e; exact ⟨M4, rfl, x4.lx, x4.pl, hw.xt x4⟩)⟩
  · rw [if_neg c4] at x4
    rw [if_neg c4, decide_eq_false c4]
    exact ⟨(fun p e => by cases e; exact ⟨M4, rfl, x4.lx, x4.pl⟩), (fun a' w' e => by cases e)⟩
theorem E_unitS (hN : 1000 ≤ N) (d D g : Nat) (hD : D ≤ 6) {sub : Option (Nat → List Int32 → RL)} (h6 : sub = none → D = 6) (hs : ∀ u, sub = some u → D < 6 ∧ GP s 40 true u ∧ SPX T s (fun M => mm_E n xs N (d + 5) 26 [.ref 23, .int (nI (D + 1))] M) u ∧ SPX T s (fun M => mm_E n xs N (d + 5) 22 [.ref 23, .int (nI (D + 1))] M) (conP T s u)) (hS : SPX T s (fun M => mm_E n xs N (d + 5) 29 [.ref 23, .int (nI D)] M) (sumD T s g)) (hC : SPX T s (fun M => mm_E n xs N (d + 5) 27 [.ref 23, .int (nI D)] M) (cmpP T s g)) : SPX T s (fun M => mm_E n xs N (d + 6) 26 [.ref 23, .int (nI D)] M) (unitP T s sub g) := by
  intro M a w hT ha has hw hwl
  have k1 := sk_ge T s a
  have k2 := sk_le (T := T) has
  have hs240 := hT.1
  obtain ⟨M1, e1, x1⟩ := E_lookX (n := n) (xs := xs) (N := N) hN (d + 4) hT ha has
  have hT1 := hT.xt x1
  have hw1 := hw.xt x1
  have x2 : XT M1 (mm_wI M1 17 2 (nI (sk T s a + 1))) (sk T s a + 1) := XT.w
  dsimp only
  unfold unitP
  rw [u_X3_isUnitNext, e1, ra_I, Option.bind_some]
  dsimp only
  by_cases c1 : cu T s (sk T s a) = 33
  · have hlt := cu_lt c1 (by decide)
    rw [c1, if_pos rfl, if_pos rfl]
    cases sub with
    | none =>
      rw [if_neg (show ¬ nI D < (6 : Int32) from by rw [h6 rfl]; decide)]
      exact ⟨(fun p e => by cases e; exact ⟨M1, rfl, x1.lx, x1.pl⟩), (fun a' w' e => by cases e)⟩
    | some u =>
      obtain ⟨hD6, hG, hU, _⟩ := hs u rfl
      rw [if_pos (show nI D < (6 : Int32) from nI_lt (b := 6) hD6 (by omega)), E_stepX (d + 4) x1.pl, ra_V, Option.bind_some, if_neg (by decide), nI_1]
      obtain ⟨q1, q2⟩ := hU _ (sk T s a + 1) w (hT1.xt x2) x2.pl (by omega) (hw1.xt x2) (by omega)
      dsimp only
      cases hr : u (sk T s a + 1) w with
      | inl p =>
        obtain ⟨M3, e3, x3, y3⟩ := q1 p hr
        dsimp only at e3
        rw [e3, ra_I, Option.bind_some]
        dsimp only
        rw [if_pos rfl]
        exact ⟨(fun p e => by cases e; exact ⟨M3, rfl, (x1.lx.tr x2.lx).tr x3, y3⟩), (fun a' w' e => by cases e)⟩
      | inr v =>
        obtain ⟨b, w1⟩ := v
        obtain ⟨M3, e3, x3, y3, z3⟩ := q2 b w1 hr
        obtain ⟨hb, l, g2, g3, _⟩ := (hG (sk T s a + 1) w (by omega)).2 b w1 hr
        have hl1 : w1.length + 1 ≤ b := by rw [g2, List.length_append]; omega
        dsimp only at e3
        rw [e3, ra_I, Option.bind_some]
        dsimp only
        rw [if_neg (by decide)]
        obtain ⟨M4, e4, x4, y4, z4⟩ := E_writeL (n := n) (xs := xs) (N := N) (d + 4) (-33) z3 (by omega)
        rw [e4, ra_V, Option.bind_some]
        exact ⟨(fun p e => by cases e), (fun a' w' e => by cases e; exact ⟨M4, rfl, ((x1.lx.tr x2.lx).tr x3).tr x4, by rw [y4]; exact y3, z4⟩)⟩
  rw [if_neg c1, if_neg c1]
  by_cases c2 : cu T s (sk T s a) = 40
  · have hlt := cu_lt c2 (by decide)
    rw [c2, if_pos rfl, if_pos rfl]
    cases sub with
    | none =>
      rw [if_neg (show ¬ nI D < (6 : Int32) from by rw [h6 rfl]; decide)]
      exact ⟨(fun p e => by cases e; exact ⟨M1, rfl, x1.lx, x1.pl⟩), (fun a' w' e => by cases e)⟩
    | some u =>
      obtain ⟨hD6, hG, _, hU⟩ := hs u rfl
      rw [if_pos (show nI D < (6 : Int32) from nI_lt (b := 6) hD6 (by omega)), E_stepX (d + 4) x1.pl, ra_V, Option.bind_some, if_pos rfl, nI_1]
      have hq := SPX_seq (e := fun M => (mm_aI (mm_E n xs N (d + 5) 22 [.ref 23, .int (nI (D + 1))] M)).bind fun p1 => if p1.1 = 0 then some (some (.int (0 : Int32)), p1.2) else (mm_aI (mm_E n xs N (d + 5) 79 [.ref 17, .int 41] p1.2)).bind fun p2 => if p2.1 = 0 then some (some (.int (0 : Int32)), p2.2) else some (some (.int (1 : Int32)), p2.2)) (fun _ _ _ _ ha hw e => (GP_con hG (by omega)).len ha hw e) hU (E_mustX (n := n) (xs := xs) (N := N) hN (d + 3) 41) (fun _ => rfl)
      obtain ⟨q1, q2⟩ := hq _ (sk T s a + 1) w (hT1.xt x2) x2.pl (by omega) (hw1.xt x2) (by omega)
      refine ⟨fun p e => ?_, fun a' w' e => ?_⟩
      · obtain ⟨M5, m1, m2, m3⟩ := q1 p e
        exact ⟨M5, m1, (x1.lx.tr x2.lx).tr m2, m3⟩
      · obtain ⟨M5, m1, m2, m3, m4⟩ := q2 a' w' e
        exact ⟨M5, m1, (x1.lx.tr x2.lx).tr m2, m3, m4⟩
  rw [if_neg c2, if_neg c2]
  have hq := SPX_seq (e := fun M => (mm_aI (mm_E n xs N (d + 5) 29 [.ref 23, .int (nI D)] M)).bind fun p1 => if p1.1 = 0 then some (some (.int (0 : Int32)), p1.2) else (mm_aI (mm_E n xs N (d + 5) 27 [.ref 23, .int (nI D)] p1.2)).bind fun p2 => if p2.1 = 0 then some (some (.int (0 : Int32)), p2.2) else some (some (.int (1 : Int32)), p2.2)) (fun _ _ _ _ ha hw e => (GP_sumD g).len ha hw e) hS hC (fun _ => rfl)
  obtain ⟨q1, q2⟩ := hq M1 (sk T s a) w hT1 x1.pl k2 hw1 (by omega)
  refine ⟨fun p e => ?_, fun a' w' e => ?_⟩
  · obtain ⟨M5, m1, m2, m3⟩ := q1 p e
    exact ⟨M5, m1, x1.lx.tr m2, m3⟩
  · obtain ⟨M5, m1, m2, m3, m4⟩ := q2 a' w' e
    exact ⟨M5, m1, x1.lx.tr m2, m3, m4⟩
theorem E_sumDK (hN : 1000 ≤ N) (g K : Nat) (hg : g ≤ 6) (hK : 3 * g + 6 ≤ K) : SPX T s (fun M => mm_E n xs N K 29 [.ref 23, .int (nI (6 - g))] M) (sumD T s g) := E_sumDX hN (K - (3 * g + 6)) g K hg (by omega)
theorem E_cmpK (hN : 1000 ≤ N) (g K : Nat) (hg : g ≤ 6) (hK : 3 * g + 7 ≤ K) : SPX T s (fun M => mm_E n xs N K 27 [.ref 23, .int (nI (6 - g))] M) (cmpP T s g) := by
  obtain ⟨d, rfl⟩ : ∃ d, K = d + 5 := ⟨K - 5, by omega⟩
  exact E_cmpX hN d g (E_sumDK hN g (d + 4) hg (by omega))
theorem E_unitDX (hN : 1000 ≤ N) : ∀ (g K : Nat), g ≤ 6 → 5 * g + 9 ≤ K → SPX T s (fun M => mm_E n xs N K 26 [.ref 23, .int (nI (6 - g))] M) (unitD T s g)
  | 0, K, hg, hK => by
    obtain ⟨d, rfl⟩ : ∃ d, K = d + 6 := ⟨K - 6, by omega⟩
    exact E_unitS hN d 6 0 (by omega) (fun _ => rfl) (fun f e => by cases e) (E_sumDK hN 0 (d + 5) hg (by omega)) (E_cmpK hN 0 (d + 5) hg (by omega))
  | g + 1, K, hg, hK => by
    obtain ⟨d, rfl⟩ : ∃ d, K = d + 6 := ⟨K - 6, by omega⟩
    have ih := E_unitDX hN g
    refine E_unitS hN d (6 - (g + 1)) (g + 1) (by omega) (fun q => by cases q) (fun f q => ?_) (E_sumDK hN (g + 1) (d + 5) hg (by omega)) (E_cmpK hN (g + 1) (d + 5) hg (by omega))
    cases q
    rw [show 6 - (g + 1) + 1 = 6 - g by omega]
    exact ⟨by omega, (GP_unitD g).mono (by omega), ih (d + 5) (by omega) (by omega), E_conX hN (5 * g + 9) (by omega) (GP_unitD g) (by omega) (fun K' hK' => ih K' (by omega) hK') (d + 5) (by omega)⟩
end LV
