section MC
variable {n : Nat} {xs : Nat → Int32} {N : Nat} {T : Nat → Int32} {s t D : Nat}
theorem TKn_num {v : Nat} (h : v < 2 ^ 31) : TKn 0 (nI v) (nI v) := Or.inl ⟨by rw [nI_toInt h]; omega, rfl, rfl⟩
theorem TKn_ltr {c : Int32} {i : Nat} (h : ltr c = some i) : TKn 1 (nI i) c := by
  refine Or.inr (Or.inl ⟨?_, i, h, rfl, rfl⟩)
  rcases ltr_c (t := c) (by rw [h]; rfl) with q | q | q | q | q | q <;> subst q <;> decide
theorem ltr_6 {c : Int32} {i : Nat} (h : ltr c = some i) : i < 2 ^ 31 := by
  rcases ltr_c (t := c) (by rw [h]; rfl) with q | q | q | q | q | q <;> subst q <;> cases h <;> omega
theorem E_atomM (hN : 1000 ≤ N) (d : Nat) (hD : D ≤ 6) {sub : Option (Nat → List Int32 → RL)} (h6 : sub = none → D = 6) (hs : ∀ f, sub = some f → D < 6 ∧ LN s f ∧ SPM T s t (D + 1) (fun M => mm_E n xs N (d + 3) 197 [.ref 60] M) f) : SPM T s t D (fun M => mm_E n xs N (d + 4) 195 [.ref 60] M) (atomP T s sub) := by
  intro M a w h
  have k1 := sk_ge T s a
  have k2 := sk_le (T := T) h.2.2.1
  have hs240 := h.1.1
  obtain ⟨M1, e1, x1, h1⟩ := E_lookS (n := n) (xs := xs) (N := N) hN (d + 1) h
  have hw1 := h1.2.2.2.2.2.2.2.2
  have hw0 := h.2.2.2.2.2.2.2.2
  dsimp only
  unfold atomP
  rw [u_X12_atom, e1, ra_I, Option.bind_some]
  dsimp only
  rw [E_dgM (d + 2), ra_I, Option.bind_some]
  dsimp only
  cases c1 : dg (cu T s (sk T s a)) with
  | true =>
    have hlt : sk T s a < s := by
      apply Decidable.byContradiction
      intro q
      rw [cu_out (by omega), dg_m1] at c1
      cases c1
    rw [if_neg (show ¬ mb true = 0 by decide), if_pos rfl]
    obtain ⟨u1, u2⟩ := E_plain (n := n) (xs := xs) (N := N) hN (d + 1) h1
    have hv := nmF_v T s 4 (sk T s a) 0
    have e4 : nmF T s 4 (sk T s a) 0 = nmF T s 3 (sk T s a + 1) (10 * 0 + ((cu T s (sk T s a)).toNatClampNeg - 48)) := by
      show (if dg (cu T s (sk T s a)) = true then _ else _) = _
      rw [if_pos c1]
    have g4 := nmF_ge T s 3 (sk T s a + 1) (10 * 0 + ((cu T s (sk T s a)).toNatClampNeg - 48)) (by omega)
    rw [← e4] at g4
    cases c2 : dg (cu T s (nmF T s 4 (sk T s a) 0).1) with
    | true =>
      obtain ⟨M2, e2, x2, h2⟩ := u1 c2
      rw [if_pos rfl, e2, ra_I, Option.bind_some]
      dsimp only
      obtain ⟨M3, e3, x3, h3⟩ := E_putF (n := n) (xs := xs) (N := N) (d + 2) 0 (nI (nmF T s 4 (sk T s a) 0).2) h2 (by omega)
      rw [e3, ra_V, Option.bind_some]
      exact SM1.l ((x1.tr x2).tr x3) h3 (by omega) (by omega)
    | false =>
      obtain ⟨M2, e2, x2, h2⟩ := u2 c2
      rw [if_neg (by decide), e2, ra_I, Option.bind_some]
      dsimp only
      obtain ⟨M3, e3, x3, h3⟩ := E_putM (n := n) (xs := xs) (N := N) (d + 2) h2 (by omega) (TKn_num (v := (nmF T s 4 (sk T s a) 0).2) (by omega))
      rw [e3, ra_V, Option.bind_some]
      exact SM1.r ((x1.tr x2).tr x3) h3
  | false =>
    rw [if_pos (show mb false = 0 by decide), if_neg (by decide), E_ltM (d + 2), ra_I, Option.bind_some]
    dsimp only
    cases c2 : ltr (-(cu T s (sk T s a))) with
    | some i =>
      have hlt : sk T s a < s := by
        apply Decidable.byContradiction
        intro q
        rw [cu_out (by omega)] at c2
        rw [show ltr (- -1) = none from by decide] at c2
        cases c2
      dsimp only
      rw [if_neg (nI_ne1 (ltr_6 c2)), if_pos (show (some i).isSome = true from rfl), E_ltM (d + 2), ra_I, Option.bind_some]
      dsimp only
      rw [c2, h1.2.1, nI_1]
      dsimp only
      have h2 := h1.st hlt
      obtain ⟨M3, e3, x3, h3⟩ := E_putM (n := n) (xs := xs) (N := N) (d + 2) h2 (by omega) (TKn_ltr c2)
      rw [e3, ra_V, Option.bind_some]
      exact SM1.r ((x1.tr LMf.w3).tr x3) h3
    | none =>
      dsimp only
      rw [if_pos rfl, if_neg (show ¬ (none : Option Nat).isSome = true by decide)]
      by_cases c3 : cu T s (sk T s a) = 91
      · have hlt := cu_lt c3 (by decide)
        rw [if_pos c3, if_pos c3]
        cases sub with
        | none =>
          have h6' := h6 rfl
          subst h6'
          obtain ⟨M2, e2, x2, h2⟩ := E_opens0 (n := n) (xs := xs) (N := N) (d + 1) h1
          rw [e2, ra_V, Option.bind_some, if_neg (h2.ne (by omega))]
          exact SM1.l (x1.tr x2) h2 (by omega) k2
        | some f =>
          obtain ⟨hD6, hL, hF⟩ := hs f rfl
          obtain ⟨M2, e2, x2, h2⟩ := E_opens1 (n := n) (xs := xs) (N := N) (d + 2) h1 hD6 hlt
          rw [e2, ra_V, Option.bind_some, if_pos h2.2.2.2.1]
          obtain ⟨q1, q2⟩ := hF M2 (sk T s a + 1) w h2
          dsimp only
          cases hr : f (sk T s a + 1) w with
          | inl p =>
            obtain ⟨M3, k, e3, x3, h3, b1, b2⟩ := q1 p hr
            dsimp only at e3
            obtain ⟨M4, e4, x4, h4⟩ := E_closesF (n := n) (xs := xs) (N := N) (d + 2) 93 h3 (by omega)
            rw [e3, ra_V, Option.bind_some, e4, ra_V, Option.bind_some]
            exact SM1.l (((x1.tr x2).tr x3).tr x4) h4 (by omega) b2
          | inr v =>
            obtain ⟨b, w1⟩ := v
            obtain ⟨M3, e3, x3, h3⟩ := q2 b w1 hr
            dsimp only at e3
            obtain ⟨u1, u2⟩ := E_closes (n := n) (xs := xs) (N := N) hN d (c := 93) (by decide) h3
            have hw3 := h3.2.2.2.2.2.2.2.2
            rw [e3, ra_V, Option.bind_some]
            have hgr : sk T s a + 1 + w1.length ≤ b + w.length := (hL (sk T s a + 1) w b w1 (by omega) hr).2.2
            refine ⟨fun p e => ?_, fun a' w' e => ?_⟩
            · obtain ⟨M4, e4, x4, h4, b1, b2⟩ := u1 p e
              rw [e4, ra_V, Option.bind_some]
              exact ⟨M4, _, rfl, ((x1.tr x2).tr x3).tr x4, h4, by omega, b2⟩
            · obtain ⟨M4, e4, x4, h4⟩ := u2 a' w' e
              rw [e4, ra_V, Option.bind_some]
              exact ⟨M4, rfl, ((x1.tr x2).tr x3).tr x4, h4⟩
      · rw [if_neg c3, if_neg c3, E_badS (d + 2) h1, ra_V, Option.bind_some]
        exact SM1.l (x1.tr LMf.w4) h1.bad (by omega) k2
end MC
