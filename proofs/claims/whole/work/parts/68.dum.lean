/-! a duchy is read, by the model -/
def DMf (M M' : mmM) : Prop := M'.1 = M.1 ∧ M'.2.1 = M.2.1 ∧ M'.2.2.1 = M.2.2.1 ∧ mm_J M' = mm_J M ∧ M'.2.2.2.2.2 = M.2.2.2.2.2 ∧ (∀ b, b ≠ 60 → b ≠ 71 → b ≠ 72 → b ≠ 73 → mm_I M' b = mm_I M b) ∧ ∀ q, q ≠ 3 → q ≠ 4 → q ≠ 20 → q ≠ 21 → mm_I M' 60 q = mm_I M 60 q
/-- only the place and the fault are others -/
def MW (M M' : mmM) : Prop := M'.1 = M.1 ∧ M'.2.1 = M.2.1 ∧ M'.2.2.1 = M.2.2.1 ∧ mm_J M' = mm_J M ∧ M'.2.2.2.2.2 = M.2.2.2.2.2 ∧ (∀ b, b ≠ 60 → mm_I M' b = mm_I M b) ∧ ∀ q, q ≠ 3 → q ≠ 4 → mm_I M' 60 q = mm_I M 60 q
section DM
variable {n : Nat} {xs : Nat → Int32} {N : Nat} {M M' M1 M2 : mmM} {T : Nat → Int32} {s a b kd : Nat}
theorem DMf.rf : DMf M M := ⟨rfl, rfl, rfl, rfl, rfl, fun _ _ _ _ _ => rfl, fun _ _ _ _ _ => rfl⟩
theorem DMf.tr (h : DMf M M1) (g : DMf M1 M2) : DMf M M2 := ⟨g.1.trans h.1, g.2.1.trans h.2.1, g.2.2.1.trans h.2.2.1, g.2.2.2.1.trans h.2.2.2.1, g.2.2.2.2.1.trans h.2.2.2.2.1, fun c h1 h2 h3 h4 => (g.2.2.2.2.2.1 c h1 h2 h3 h4).trans (h.2.2.2.2.2.1 c h1 h2 h3 h4), fun c h1 h2 h3 h4 => (g.2.2.2.2.2.2 c h1 h2 h3 h4).trans (h.2.2.2.2.2.2 c h1 h2 h3 h4)⟩
theorem MW.tr (h : MW M M1) (g : MW M1 M2) : MW M M2 := ⟨g.1.trans h.1, g.2.1.trans h.2.1, g.2.2.1.trans h.2.2.1, g.2.2.2.1.trans h.2.2.2.1, g.2.2.2.2.1.trans h.2.2.2.2.1, fun c h1 => (g.2.2.2.2.2.1 c h1).trans (h.2.2.2.2.2.1 c h1), fun c h1 h2 => (g.2.2.2.2.2.2 c h1 h2).trans (h.2.2.2.2.2.2 c h1 h2)⟩
theorem MT.mw (h : MT M M1 a) : MW M M1 := ⟨h.1, h.2.1, h.2.2.1, h.2.2.2.1, h.2.2.2.2.1, fun b hb => h.I hb, fun q h3 _ => h.q h3⟩
theorem MW.w4 {x : Int32} : MW M (mm_wI M 60 4 x) := ⟨rfl, rfl, rfl, rfl, rfl, fun _ h => I_wn h, fun q _ h4 => by rw [I_s, if_neg h4]⟩
theorem MW.w3 {x : Int32} : MW M (mm_wI M 60 3 x) := ⟨rfl, rfl, rfl, rfl, rfl, fun _ h => I_wn h, fun q h3 _ => by rw [I_s, if_neg h3]⟩
theorem MW.dm (h : MW M M1) : DMf M M1 := ⟨h.1, h.2.1, h.2.2.1, h.2.2.2.1, h.2.2.2.2.1, fun b hb _ _ _ => h.2.2.2.2.2.1 b hb, fun q h3 h4 _ _ => h.2.2.2.2.2.2 q h3 h4⟩
theorem MW.I (h : MW M M1) {c : Nat} (hc : c ≠ 60) : mm_I M1 c = mm_I M c := h.2.2.2.2.2.1 c hc
theorem MTp.dm (h : MTp M T s) (g : DMf M M1) : MTp M1 T s := ⟨h.1, by rw [g.2.2.2.2.2.2 2 (by decide) (by decide) (by decide) (by decide)]; exact h.2.1, by rw [g.2.2.2.2.2.1 61 (by decide) (by decide) (by decide) (by decide)]; exact h.2.2⟩
theorem DMf.w20 {x : Int32} : DMf M (mm_wI M 60 20 x) := ⟨rfl, rfl, rfl, rfl, rfl, fun _ h _ _ _ => I_wn h, fun q _ _ h4 _ => by rw [I_s, if_neg h4]⟩
theorem DMf.w21 {x : Int32} : DMf M (mm_wI M 60 21 x) := ⟨rfl, rfl, rfl, rfl, rfl, fun _ h _ _ _ => I_wn h, fun q _ _ _ h4 => by rw [I_s, if_neg h4]⟩
theorem E_itemOf (d : Nat) (M : mmM) (h : kd < 3) (c : Int32) : mm_E n xs N (d + 1) 213 [.int (mm_tb 7 kd), .int c] M = some (some (.int (oI (itN kd c))), M) := by
  rw [u_X12_itemOf]
  rcases kd3 h with rfl | rfl | rfl
  · rw [if_neg (by decide), if_pos (by decide)]
    show _ = some (some (Value.int (oI (if (97 : Int32) = c then some 0 else if (121 : Int32) = c then some 1 else if (99 : Int32) = c then some 2 else if (112 : Int32) = c then some 3 else none))), M)
    by_cases h0 : c = 97
    · rw [if_pos h0, if_pos h0.symm]; rfl
    · rw [if_neg h0, if_neg (show ¬ (97 : Int32) = c from fun e => h0 e.symm)]
      by_cases h1 : c = 121
      · rw [if_pos h1, if_pos h1.symm]; rfl
      · rw [if_neg h1, if_neg (show ¬ (121 : Int32) = c from fun e => h1 e.symm)]
        by_cases h2 : c = 99
        · rw [if_pos h2, if_pos h2.symm]; rfl
        · rw [if_neg h2, if_neg (show ¬ (99 : Int32) = c from fun e => h2 e.symm)]
          by_cases h3 : c = 112
          · rw [if_pos h3, if_pos h3.symm]; rfl
          · rw [if_neg h3, if_neg (show ¬ (112 : Int32) = c from fun e => h3 e.symm)]; rfl
  · rw [if_pos (by decide)]
    show _ = some (some (Value.int (oI (if (119 : Int32) = c then some 0 else if (101 : Int32) = c then some 1 else none))), M)
    by_cases h0 : c = 119
    · rw [if_pos h0, if_pos h0.symm]; rfl
    · rw [if_neg h0, if_neg (show ¬ (119 : Int32) = c from fun e => h0 e.symm)]
      by_cases h1 : c = 101
      · rw [if_pos h1, if_pos h1.symm]; rfl
      · rw [if_neg h1, if_neg (show ¬ (101 : Int32) = c from fun e => h1 e.symm)]; rfl
  · rw [if_neg (by decide), if_neg (by decide)]
    show _ = some (some (Value.int (oI (if (119 : Int32) = c then some 0 else if (118 : Int32) = c then some 1 else if (110 : Int32) = c then some 2 else if (108 : Int32) = c then some 3 else none))), M)
    by_cases h0 : c = 119
    · rw [if_pos h0, if_pos h0.symm]; rfl
    · rw [if_neg h0, if_neg (show ¬ (119 : Int32) = c from fun e => h0 e.symm)]
      by_cases h1 : c = 118
      · rw [if_pos h1, if_pos h1.symm]; rfl
      · rw [if_neg h1, if_neg (show ¬ (118 : Int32) = c from fun e => h1 e.symm)]
        by_cases h2 : c = 110
        · rw [if_pos h2, if_pos h2.symm]; rfl
        · rw [if_neg h2, if_neg (show ¬ (110 : Int32) = c from fun e => h2 e.symm)]
          by_cases h3 : c = 108
          · rw [if_pos h3, if_pos h3.symm]; rfl
          · rw [if_neg h3, if_neg (show ¬ (108 : Int32) = c from fun e => h3 e.symm)]; rfl
theorem kk (h : kd < 3) {k : Nat} (hk : k < pl_w kd) : (kd = 0 ∧ (k = 0 ∨ k = 1 ∨ k = 2 ∨ k = 3)) ∨ (kd = 1 ∧ (k = 0 ∨ k = 1)) ∨ (kd = 2 ∧ (k = 0 ∨ k = 1 ∨ k = 2 ∨ k = 3)) := by
  rcases kd3 h with rfl | rfl | rfl <;> simp [pl_w] at hk <;> omega
theorem E_highest (d : Nat) (M : mmM) (h : kd < 3) {k : Nat} (hk : k < pl_w kd) : mm_E n xs N (d + 1) 214 [.int (mm_tb 7 kd), .int (nI k)] M = some (some (.int (mm_tb 4 (fiK kd + k))), M) := by
  rw [u_X12_highest]
  rcases kk h hk with ⟨rfl, rfl | rfl | rfl | rfl⟩ | ⟨rfl, rfl | rfl⟩ | ⟨rfl, rfl | rfl | rfl | rfl⟩ <;> rfl
theorem E_usual (d : Nat) (M : mmM) (h : kd < 3) {k : Nat} (hk : k < pl_w kd) : mm_E n xs N (d + 1) 215 [.int (mm_tb 7 kd), .int (nI k)] M = some (some (.int (mm_tb 5 (fiK kd + k))), M) := by
  rw [u_X12_usual]
  rcases kk h hk with ⟨rfl, rfl | rfl | rfl | rfl⟩ | ⟨rfl, rfl | rfl⟩ | ⟨rfl, rfl | rfl | rfl | rfl⟩ <;> rfl
/-- a value, by the model -/
theorem E_numM (hN : 1000 ≤ N) (d : Nat) {k : Nat} (hT : MTp M T s) (h4 : mm_I M 60 4 = -1) (ha : mm_I M 60 3 = nI a) (has : a ≤ s) : (∀ p, vlP T s kd k a = .inl p → ∃ v M1, mm_E n xs N (d + 3) 212 [.ref 60, .int (mm_tb 3 (fiK kd + k)), .int (mm_tb 4 (fiK kd + k))] M = some (some (.int v), M1) ∧ MW M M1 ∧ mm_I M1 60 4 = nI p) ∧ ∀ q, vlP T s kd k a = .inr q → ∃ M1, mm_E n xs N (d + 3) 212 [.ref 60, .int (mm_tb 3 (fiK kd + k)), .int (mm_tb 4 (fiK kd + k))] M = some (some (.int (nI q.2)), M1) ∧ MT M M1 q.1 := by
  obtain ⟨M1, e1, x1⟩ := E_lookM (n := n) (xs := xs) (N := N) hN d hT ha has
  have hT1 := hT.mt x1
  have hb := sk_le (T := T) has
  have hs := hT.1
  have h41 : mm_I M1 60 4 = -1 := (x1.q (by decide)).trans h4
  have ed := fun Mx c => E_dgM (n := n) (xs := xs) (N := N) (d + 1) Mx c
  unfold vlP
  cases hg : dg (cu T s (sk T s a)) with
  | false =>
    rw [if_neg (show ¬ false = true by decide)]
    refine ⟨fun p hp => ?_, fun q hq => by cases hq⟩
    cases hp
    refine ⟨mm_tb 3 (fiK kd + k), mm_wI M1 60 4 (nI (sk T s a)), ?_, x1.mw.tr MW.w4, by rw [I_s, if_pos rfl]⟩
    rw [u_X12_number, e1, ra_I, Option.bind_some]
    dsimp only
    rw [ed, hg, ra_I, Option.bind_some]
    dsimp only
    rw [if_pos (show mb false = 0 by decide), E_bad (d + 1) h41 x1.pl, ra_V, Option.bind_some]
  | true =>
    rw [if_pos rfl]
    have hlt : sk T s a < s := by
      apply Decidable.byContradiction
      intro w
      rw [cu_out (by omega), dg_m1] at hg
      cases hg
    obtain ⟨k1, hk1, ek1⟩ := dg_n hg
    have x2 : MT M (mm_wI M1 60 3 (nI (sk T s a + 1))) (sk T s a + 1) := x1.tr MT.w
    have hT2 := hT.mt x2
    have eh1 := E_here (n := n) (xs := xs) (N := N) (d + 1) hT1 x1.pl (by omega)
    have eh2 := E_here (n := n) (xs := xs) (N := N) (d + 1) hT2 x2.pl (by omega)
    have v1 : cu T s (sk T s a) - 48 = nI k1 := by rw [ek1, show (48 : Int32) = nI 48 from rfl, pk_sub (by omega), show 48 + k1 - 48 = k1 by omega]
    have n1 : nmF T s 2 (sk T s a) 0 = nmF T s 1 (sk T s a + 1) k1 := by
      show (if dg (cu T s (sk T s a)) = true then nmF T s 1 (sk T s a + 1) (10 * 0 + ((cu T s (sk T s a)).toNatClampNeg - 48)) else _) = _
      rw [if_pos hg, ek1, nI_clamp (by omega), show 10 * 0 + (48 + k1 - 48) = k1 by omega]
    have pre : ∀ R, (if mb (dg (cu T s (sk T s a + 1))) = 0 then ((mm_aI (mm_E n xs N (d + 2) 186 [.ref 60] (mm_wI M1 60 3 (nI (sk T s a + 1))))).bind fun p7 => ((mm_aI (mm_E n xs N (d + 2) 189 [.int p7.1] p7.2)).bind fun p8 => (if p8.1 = 0 then ((mm_aI (mm_E n xs N (d + 2) 179 [.int (nI k1), .int (mm_tb 3 (fiK kd + k)), .int (mm_tb 4 (fiK kd + k))] p8.2)).bind fun p9 => (if p9.1 = 0 then ((mm_aV (mm_E n xs N (d + 2) 188 [.ref 60] (mm_wI p9.2 60 3 ((mm_I p9.2 60 3) - (1 : Int32))))).bind fun p10 => some (some (Value.int (nI k1)), p10)) else some (some (Value.int (nI k1)), p9.2))) else ((mm_aV (mm_E n xs N (d + 2) 188 [.ref 60] p8.2)).bind fun p11 => some (some (Value.int (nI k1)), p11))))) else ((mm_aI (mm_E n xs N (d + 2) 186 [.ref 60] (mm_wI M1 60 3 (nI (sk T s a + 1))))).bind fun p12 => ((mm_aI (mm_E n xs N (d + 2) 186 [.ref 60] (mm_wI p12.2 60 3 ((mm_I p12.2 60 3) + (1 : Int32))))).bind fun p13 => ((mm_aI (mm_E n xs N (d + 2) 189 [.int p13.1] p13.2)).bind fun p14 => (if p14.1 = 0 then ((mm_aI (mm_E n xs N (d + 2) 179 [.int ((((10 : Int32) * nI k1) + p12.1) - (48 : Int32)), .int (mm_tb 3 (fiK kd + k)), .int (mm_tb 4 (fiK kd + k))] p14.2)).bind fun p15 => (if p15.1 = 0 then ((mm_aV (mm_E n xs N (d + 2) 188 [.ref 60] (mm_wI p15.2 60 3 ((mm_I p15.2 60 3) - (1 : Int32))))).bind fun p16 => some (some (Value.int ((((10 : Int32) * nI k1) + p12.1) - (48 : Int32))), p16)) else some (some (Value.int ((((10 : Int32) * nI k1) + p12.1) - (48 : Int32))), p15.2))) else ((mm_aV (mm_E n xs N (d + 2) 188 [.ref 60] p14.2)).bind fun p17 => some (some (Value.int ((((10 : Int32) * nI k1) + p12.1) - (48 : Int32))), p17))))))) = R → mm_E n xs N (d + 3) 212 [.ref 60, .int (mm_tb 3 (fiK kd + k)), .int (mm_tb 4 (fiK kd + k))] M = R := by
      intro R hR
      rw [← hR, u_X12_number, e1, ra_I, Option.bind_some]
      dsimp only
      rw [ed, hg, ra_I, Option.bind_some]
      dsimp only
      rw [if_neg (show ¬ mb true = 0 by decide), eh1, ra_I, Option.bind_some]
      dsimp only
      rw [x1.pl, nI_1, eh2, ra_I, Option.bind_some]
      dsimp only
      rw [ed, ra_I, Option.bind_some, v1]
      dsimp only
      rw [eh2, ra_I]
    -- the end: the number v at place p
    have fin : ∀ (Mx : mmM) (p v : Nat), MT M Mx p → 1 ≤ p → p ≤ s → nmF T s 2 (sk T s a) 0 = (p, v) → (∀ R, (if mb (dg (cu T s p)) = 0 then ((mm_aI (mm_E n xs N (d + 2) 179 [.int (nI v), .int (mm_tb 3 (fiK kd + k)), .int (mm_tb 4 (fiK kd + k))] Mx)).bind fun p9 => (if p9.1 = 0 then ((mm_aV (mm_E n xs N (d + 2) 188 [.ref 60] (mm_wI p9.2 60 3 ((mm_I p9.2 60 3) - (1 : Int32))))).bind fun p10 => some (some (Value.int (nI v)), p10)) else some (some (Value.int (nI v)), p9.2))) else ((mm_aV (mm_E n xs N (d + 2) 188 [.ref 60] Mx)).bind fun p11 => some (some (Value.int (nI v)), p11))) = R → mm_E n xs N (d + 3) 212 [.ref 60, .int (mm_tb 3 (fiK kd + k)), .int (mm_tb 4 (fiK kd + k))] M = R) → (∀ p', (if dg (cu T s (nmF T s 2 (sk T s a) 0).1) = true then Sum.inl (nmF T s 2 (sk T s a) 0).1 else if alK kd k (nmF T s 2 (sk T s a) 0).2 = true then Sum.inr (nmF T s 2 (sk T s a) 0) else Sum.inl ((nmF T s 2 (sk T s a) 0).1 - 1) : Nat ⊕ (Nat × Nat)) = .inl p' → ∃ v M1, mm_E n xs N (d + 3) 212 [.ref 60, .int (mm_tb 3 (fiK kd + k)), .int (mm_tb 4 (fiK kd + k))] M = some (some (.int v), M1) ∧ MW M M1 ∧ mm_I M1 60 4 = nI p') ∧ ∀ q, (if dg (cu T s (nmF T s 2 (sk T s a) 0).1) = true then Sum.inl (nmF T s 2 (sk T s a) 0).1 else if alK kd k (nmF T s 2 (sk T s a) 0).2 = true then Sum.inr (nmF T s 2 (sk T s a) 0) else Sum.inl ((nmF T s 2 (sk T s a) 0).1 - 1) : Nat ⊕ (Nat × Nat)) = .inr q → ∃ M1, mm_E n xs N (d + 3) 212 [.ref 60, .int (mm_tb 3 (fiK kd + k)), .int (mm_tb 4 (fiK kd + k))] M = some (some (.int (nI q.2)), M1) ∧ MT M M1 q.1 := by
      intro Mx p v xm hp hps en pr
      have hx4 : mm_I Mx 60 4 = -1 := (xm.q (by decide)).trans h4
      rw [en]
      dsimp only
      cases g2 : dg (cu T s p) with
      | true =>
        rw [g2] at pr
        rw [if_pos rfl]
        refine ⟨fun p' hp' => ?_, fun q hq => by cases hq⟩
        cases hp'
        refine ⟨nI v, mm_wI Mx 60 4 (nI p), pr _ ?_, xm.mw.tr MW.w4, by rw [I_s, if_pos rfl]⟩
        rw [if_neg (show ¬ mb true = 0 by decide), E_bad (d + 1) hx4 xm.pl, ra_V, Option.bind_some]
      | false =>
        rw [g2] at pr
        rw [if_neg (show ¬ false = true by decide)]
        have ein := E_in (n := n) (xs := xs) (N := N) (d + 1) Mx (nI v) (mm_tb 3 (fiK kd + k)) (mm_tb 4 (fiK kd + k))
        have eal : wi (mm_tb 3 (fiK kd + k)) (nI v) (mm_tb 4 (fiK kd + k)) = alK kd k v := rfl
        rw [eal] at ein
        cases hal : alK kd k v with
        | true =>
          rw [hal] at ein
          rw [if_pos rfl]
          refine ⟨fun p' hp' => (by cases hp'), fun q hq => ?_⟩
          cases hq
          refine ⟨Mx, pr _ ?_, xm⟩
          rw [if_pos (show mb false = 0 by decide), ein, ra_I, Option.bind_some]
          dsimp only
          rw [if_neg (show ¬ mb true = 0 by decide)]
        | false =>
          rw [hal] at ein
          rw [if_neg (show ¬ false = true by decide)]
          refine ⟨fun p' hp' => ?_, fun q hq => by cases hq⟩
          cases hp'
          have x5 : MT M (mm_wI Mx 60 3 (nI (p - 1))) (p - 1) := xm.tr MT.w
          refine ⟨nI v, mm_wI (mm_wI Mx 60 3 (nI (p - 1))) 60 4 (nI (p - 1)), pr _ ?_, x5.mw.tr MW.w4, by rw [I_s, if_pos rfl]⟩
          rw [if_pos (show mb false = 0 by decide), ein, ra_I, Option.bind_some]
          dsimp only
          rw [if_pos (show mb false = 0 by decide), xm.pl, nI_m1 (by omega), E_bad (d + 1) ((x5.q (by decide)).trans h4) x5.pl, ra_V, Option.bind_some]
    cases hg2 : dg (cu T s (sk T s a + 1)) with
    | false =>
      have n2 : nmF T s 2 (sk T s a) 0 = (sk T s a + 1, k1) := by
        rw [n1]
        show (if dg (cu T s (sk T s a + 1)) = true then _ else (sk T s a + 1, k1)) = _
        rw [if_neg (by rw [hg2]; decide)]
      refine fin _ (sk T s a + 1) k1 x2 (by omega) (by omega) n2 (fun R hR => pre R ?_)
      rw [hg2, if_pos (show mb false = 0 by decide), eh2, ra_I, Option.bind_some]
      dsimp only
      rw [ed, ra_I, Option.bind_some]
      exact hR
    | true =>
      obtain ⟨k2, hk2, ek2⟩ := dg_n hg2
      have hlt2 : sk T s a + 1 < s := by
        apply Decidable.byContradiction
        intro w
        rw [cu_out (by omega), dg_m1] at hg2
        cases hg2
      have n2 : nmF T s 2 (sk T s a) 0 = (sk T s a + 2, 10 * k1 + k2) := by
        rw [n1]
        show (if dg (cu T s (sk T s a + 1)) = true then (sk T s a + 1 + 1, 10 * k1 + ((cu T s (sk T s a + 1)).toNatClampNeg - 48)) else _) = _
        rw [if_pos hg2, ek2, nI_clamp (by omega), show 48 + k2 - 48 = k2 by omega]
      have x3 : MT M (mm_wI (mm_wI M1 60 3 (nI (sk T s a + 1))) 60 3 (nI (sk T s a + 2))) (sk T s a + 2) := x2.tr MT.w
      have eh3 := E_here (n := n) (xs := xs) (N := N) (d + 1) (hT.mt x3) x3.pl (by omega)
      have v2 : (10 : Int32) * nI k1 + cu T s (sk T s a + 1) - 48 = nI (10 * k1 + k2) := by
        rw [ek2, show (10 : Int32) = nI 10 from rfl, pk_mul, nI_add, show (48 : Int32) = nI 48 from rfl, pk_sub (by omega), show 10 * k1 + (48 + k2) - 48 = 10 * k1 + k2 by omega]
      refine fin _ (sk T s a + 2) (10 * k1 + k2) x3 (by omega) (by omega) n2 (fun R hR => pre R ?_)
      rw [hg2, if_neg (show ¬ mb true = 0 by decide), eh2, ra_I, Option.bind_some]
      dsimp only
      rw [x2.pl, nI_1, eh3, ra_I, Option.bind_some]
      dsimp only
      rw [ed, ra_I, Option.bind_some, v2]
      exact hR
end DM
