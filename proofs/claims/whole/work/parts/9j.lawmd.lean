section MD
variable {n : Nat} {xs : Nat → Int32} {N : Nat} {T : Nat → Int32} {s t D : Nat}
theorem L_termM (hN : 1000 ≤ N) (d : Nat) {P : Nat → List Int32 → RL} (hL : LN s P) (hA : SPM T s t D (fun M => mm_E n xs N (d + 2) 195 [.ref 60] M) P) : ∀ (j i f a : Nat) (w : List Int32) (M : mmM), i + j = 240 → j + 1 < f → i ≤ a → a ≤ s → MS T s t D M (sk T s a) w → SM1 T s t D M a w (lp_X12_term n xs N (d + 2) f 21 [some (.ref 60), some (.int (cu T s (sk T s a)))] [] M) (loopP T s P 42 47 j a w)
  | 0, i, f, a, w, M, hi, hf, hia, has, h => by
    obtain ⟨f, rfl⟩ : ∃ g, f = g + 1 := ⟨f - 1, by omega⟩
    have hs240 := h.1.1
    have k1 := sk_ge T s a
    have e1 : sk T s a = a := by have := h.2.2.1; omega
    rw [e1] at h
    rw [e1, cu_out (by omega), lu_X12_term_21, if_neg (by decide), if_neg (by decide)]
    exact SM1.r LMf.rf h
  | j + 1, i, f, a, w, M, hi, hf, hia, has, h => by
    obtain ⟨f, rfl⟩ : ∃ g, f = g + 1 := ⟨f - 1, by omega⟩
    have hs240 := h.1.1
    have k1 := sk_ge T s a
    have hw0 := h.2.2.2.2.2.2.2.2
    have base : ∀ (o c : Int32), cu T s (sk T s a) = c → c ≠ -1 → TKn o 0 (-c) → SM1 T s t D M a w ((mm_aV (mm_E n xs N (d + 2) 195 [.ref 60] (mm_wI M 60 3 (mm_I M 60 3 + (1 : Int32))))).bind fun p3 => (mm_aV (mm_E n xs N (d + 2) 190 [.ref 60, .int o, .int (0 : Int32)] p3)).bind fun p4 => if mm_I p4 60 4 = (-1 : Int32) then (mm_aI (mm_E n xs N (d + 2) 187 [.ref 60] p4)).bind fun p5 => lp_X12_term n xs N (d + 2) f 21 [some (.ref 60), some (.int p5.1)] [] p5.2 else lp_X12_term n xs N (d + 2) f 21 [some (.ref 60), some (.int (-1 : Int32))] [] p4) (thenR (P (sk T s a + 1) w) (fun a' w' => loopP T s P 42 47 j a' (w' ++ [-c]))) := by
      intro o c hc hc1 ho
      have hlt := cu_lt hc hc1
      rw [h.2.1, nI_1]
      have h1 := h.st hlt
      obtain ⟨q1, q2⟩ := hA _ _ _ h1
      dsimp only at q1 q2
      cases hr : P (sk T s a + 1) w with
      | inl p =>
        obtain ⟨M3, k, e3, x3, h3, b1, b2⟩ := q1 p hr
        obtain ⟨M4, e4, x4, h4⟩ := E_putF (n := n) (xs := xs) (N := N) (d + 1) o 0 h3 (by omega)
        rw [e3, ra_V, Option.bind_some, e4, ra_V, Option.bind_some, if_neg (h4.ne (by omega))]
        obtain ⟨f, rfl⟩ : ∃ g, f = g + 1 := ⟨f - 1, by omega⟩
        rw [lu_X12_term_21, if_neg (by decide), if_neg (by decide)]
        exact SM1.l ((LMf.w3.tr x3).tr x4) h4 (by omega) b2
      | inr v =>
        obtain ⟨b, w1⟩ := v
        obtain ⟨M3, e3, x3, h3⟩ := q2 b w1 hr
        obtain ⟨l1, l2⟩ := hL (sk T s a + 1) w b w1 (by omega) hr
        obtain ⟨M4, e4, x4, h4⟩ := E_putM (n := n) (xs := xs) (N := N) (d + 1) h3 (by omega) ho
        obtain ⟨M5, e5, x5, h5⟩ := E_lookS (n := n) (xs := xs) (N := N) hN d h4
        rw [e3, ra_V, Option.bind_some, e4, ra_V, Option.bind_some, if_pos h4.2.2.2.1, e5, ra_I, Option.bind_some]
        dsimp only
        have := L_termM hN d hL hA j (i + 1) f b (w1 ++ [-c]) M5 (by omega) (by omega) (by omega) l1 h5
        exact this.pre (((LMf.w3.tr x3).tr x4).tr x5) (by rw [List.length_append, List.length_cons, List.length_nil]; omega)
    unfold loopP
    rw [lu_X12_term_21]
    by_cases c1 : cu T s (sk T s a) = 42
    · have := base 4 42 c1 (by decide) (Or.inr (Or.inr (by decide)))
      rw [c1, if_pos (Or.inl rfl), if_pos rfl]
      simp only [if_pos (show (42 : Int32) = 42 from rfl)]
      exact this
    · by_cases c2 : cu T s (sk T s a) = 47
      · have := base 5 47 c2 (by decide) (Or.inr (Or.inr (by decide)))
        rw [c2, if_pos (Or.inr rfl), if_neg (by decide), if_pos rfl]
        simp only [if_neg (show ¬ (47 : Int32) = 42 by decide)]
        exact this
      · rw [if_neg c1, if_neg c2, if_neg (fun q => q.elim c1 c2)]
        exact SM1.r LMf.rf h
theorem E_termM (hN : 1000 ≤ N) (d : Nat) {P : Nat → List Int32 → RL} (hL : LN s P) (hA : SPM T s t D (fun M => mm_E n xs N (d + 2) 195 [.ref 60] M) P) : SPM T s t D (fun M => mm_E n xs N (d + 3) 196 [.ref 60] M) (fun a w => thenR (P a w) (loopP T s P 42 47 240)) := by
  intro M a w h
  have hs240 := h.1.1
  obtain ⟨q1, q2⟩ := hA _ _ _ h
  dsimp only at q1 q2 ⊢
  rw [u_X12_term]
  cases hr : P a w with
  | inl p =>
    obtain ⟨M3, k, e3, x3, h3, b1, b2⟩ := q1 p hr
    rw [e3, ra_V, Option.bind_some, if_neg (h3.ne (by omega))]
    obtain ⟨N, rfl⟩ : ∃ g, N = g + 1 := ⟨N - 1, by omega⟩
    rw [lu_X12_term_21, if_neg (by decide), if_neg (by decide)]
    exact SM1.l x3 h3 b1 b2
  | inr v =>
    obtain ⟨b, w1⟩ := v
    obtain ⟨M3, e3, x3, h3⟩ := q2 b w1 hr
    obtain ⟨l1, l2⟩ := hL a w b w1 h.2.2.1 hr
    obtain ⟨M5, e5, x5, h5⟩ := E_lookS (n := n) (xs := xs) (N := N) hN d h3
    rw [e3, ra_V, Option.bind_some, if_pos h3.2.2.2.1, e5, ra_I, Option.bind_some]
    dsimp only
    exact (L_termM hN d hL hA 240 0 N b w1 M5 (by omega) (by omega) (by omega) l1 h5).pre (x3.tr x5) (by omega)
theorem L_sumM (hN : 1000 ≤ N) (d : Nat) {P : Nat → List Int32 → RL} (hL : LN s P) (hA : SPM T s t D (fun M => mm_E n xs N (d + 2) 196 [.ref 60] M) P) : ∀ (j i f a : Nat) (w : List Int32) (M : mmM), i + j = 240 → j + 1 < f → i ≤ a → a ≤ s → MS T s t D M (sk T s a) w → SM1 T s t D M a w (lp_X12_sum n xs N (d + 2) f 21 [some (.ref 60), some (.int (cu T s (sk T s a)))] [] M) (loopP T s P 43 45 j a w)
  | 0, i, f, a, w, M, hi, hf, hia, has, h => by
    obtain ⟨f, rfl⟩ : ∃ g, f = g + 1 := ⟨f - 1, by omega⟩
    have hs240 := h.1.1
    have k1 := sk_ge T s a
    have e1 : sk T s a = a := by have := h.2.2.1; omega
    rw [e1] at h
    rw [e1, cu_out (by omega), lu_X12_sum_21, if_neg (by decide), if_neg (by decide)]
    exact SM1.r LMf.rf h
  | j + 1, i, f, a, w, M, hi, hf, hia, has, h => by
    obtain ⟨f, rfl⟩ : ∃ g, f = g + 1 := ⟨f - 1, by omega⟩
    have hs240 := h.1.1
    have k1 := sk_ge T s a
    have hw0 := h.2.2.2.2.2.2.2.2
    have base : ∀ (o c : Int32), cu T s (sk T s a) = c → c ≠ -1 → TKn o 0 (-c) → SM1 T s t D M a w ((mm_aV (mm_E n xs N (d + 2) 196 [.ref 60] (mm_wI M 60 3 (mm_I M 60 3 + (1 : Int32))))).bind fun p3 => (mm_aV (mm_E n xs N (d + 2) 190 [.ref 60, .int o, .int (0 : Int32)] p3)).bind fun p4 => if mm_I p4 60 4 = (-1 : Int32) then (mm_aI (mm_E n xs N (d + 2) 187 [.ref 60] p4)).bind fun p5 => lp_X12_sum n xs N (d + 2) f 21 [some (.ref 60), some (.int p5.1)] [] p5.2 else lp_X12_sum n xs N (d + 2) f 21 [some (.ref 60), some (.int (-1 : Int32))] [] p4) (thenR (P (sk T s a + 1) w) (fun a' w' => loopP T s P 43 45 j a' (w' ++ [-c]))) := by
      intro o c hc hc1 ho
      have hlt := cu_lt hc hc1
      rw [h.2.1, nI_1]
      have h1 := h.st hlt
      obtain ⟨q1, q2⟩ := hA _ _ _ h1
      dsimp only at q1 q2
      cases hr : P (sk T s a + 1) w with
      | inl p =>
        obtain ⟨M3, k, e3, x3, h3, b1, b2⟩ := q1 p hr
        obtain ⟨M4, e4, x4, h4⟩ := E_putF (n := n) (xs := xs) (N := N) (d + 1) o 0 h3 (by omega)
        rw [e3, ra_V, Option.bind_some, e4, ra_V, Option.bind_some, if_neg (h4.ne (by omega))]
        obtain ⟨f, rfl⟩ : ∃ g, f = g + 1 := ⟨f - 1, by omega⟩
        rw [lu_X12_sum_21, if_neg (by decide), if_neg (by decide)]
        exact SM1.l ((LMf.w3.tr x3).tr x4) h4 (by omega) b2
      | inr v =>
        obtain ⟨b, w1⟩ := v
        obtain ⟨M3, e3, x3, h3⟩ := q2 b w1 hr
        obtain ⟨l1, l2⟩ := hL (sk T s a + 1) w b w1 (by omega) hr
        obtain ⟨M4, e4, x4, h4⟩ := E_putM (n := n) (xs := xs) (N := N) (d + 1) h3 (by omega) ho
        obtain ⟨M5, e5, x5, h5⟩ := E_lookS (n := n) (xs := xs) (N := N) hN d h4
        rw [e3, ra_V, Option.bind_some, e4, ra_V, Option.bind_some, if_pos h4.2.2.2.1, e5, ra_I, Option.bind_some]
        dsimp only
        have := L_sumM hN d hL hA j (i + 1) f b (w1 ++ [-c]) M5 (by omega) (by omega) (by omega) l1 h5
        exact this.pre (((LMf.w3.tr x3).tr x4).tr x5) (by rw [List.length_append, List.length_cons, List.length_nil]; omega)
    unfold loopP
    rw [lu_X12_sum_21]
    by_cases c1 : cu T s (sk T s a) = 43
    · have := base 2 43 c1 (by decide) (Or.inr (Or.inr (by decide)))
      rw [c1, if_pos (Or.inl rfl), if_pos rfl]
      simp only [if_pos (show (43 : Int32) = 43 from rfl)]
      exact this
    · by_cases c2 : cu T s (sk T s a) = 45
      · have := base 3 45 c2 (by decide) (Or.inr (Or.inr (by decide)))
        rw [c2, if_pos (Or.inr rfl), if_neg (by decide), if_pos rfl]
        simp only [if_neg (show ¬ (45 : Int32) = 43 by decide)]
        exact this
      · rw [if_neg c1, if_neg c2, if_neg (fun q => q.elim c1 c2)]
        exact SM1.r LMf.rf h
theorem E_sumM (hN : 1000 ≤ N) (d : Nat) {P : Nat → List Int32 → RL} (hL : LN s P) (hA : SPM T s t D (fun M => mm_E n xs N (d + 2) 196 [.ref 60] M) P) : SPM T s t D (fun M => mm_E n xs N (d + 3) 197 [.ref 60] M) (fun a w => thenR (P a w) (loopP T s P 43 45 240)) := by
  intro M a w h
  have hs240 := h.1.1
  obtain ⟨q1, q2⟩ := hA _ _ _ h
  dsimp only at q1 q2 ⊢
  rw [u_X12_sum]
  cases hr : P a w with
  | inl p =>
    obtain ⟨M3, k, e3, x3, h3, b1, b2⟩ := q1 p hr
    rw [e3, ra_V, Option.bind_some, if_neg (h3.ne (by omega))]
    obtain ⟨N, rfl⟩ : ∃ g, N = g + 1 := ⟨N - 1, by omega⟩
    rw [lu_X12_sum_21, if_neg (by decide), if_neg (by decide)]
    exact SM1.l x3 h3 b1 b2
  | inr v =>
    obtain ⟨b, w1⟩ := v
    obtain ⟨M3, e3, x3, h3⟩ := q2 b w1 hr
    obtain ⟨l1, l2⟩ := hL a w b w1 h.2.2.1 hr
    obtain ⟨M5, e5, x5, h5⟩ := E_lookS (n := n) (xs := xs) (N := N) hN d h3
    rw [e3, ra_V, Option.bind_some, if_pos h3.2.2.2.1, e5, ra_I, Option.bind_some]
    dsimp only
    exact (L_sumM hN d hL hA 240 0 N b w1 M5 (by omega) (by omega) (by omega) l1 h5).pre (x3.tr x5) (by omega)
end MD
