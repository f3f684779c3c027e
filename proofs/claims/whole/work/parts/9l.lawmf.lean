section MF
variable {n : Nat} {xs : Nat → Int32} {N : Nat} {T : Nat → Int32} {s t D : Nat}
theorem L_goOnAndM (hN : 1000 ≤ N) (d : Nat) {P : Nat → List Int32 → RL} (hL : LN s P) (hA : SPM T s t D (fun M => mm_E n xs N (d + 2) 200 [.ref 60] M) P) : ∀ (j i f a : Nat) (w : List Int32) (M : mmM), i + j = 240 → j + 1 < f → i ≤ a → MS T s t D M a w → SM1 T s t D M a w (lp_X12_goOnAnd n xs N (d + 2) f 0 [some (.ref 60)] [] M) (loopP T s P 38 38 j a w)
  | 0, i, f, a, w, M, hi, hf, hia, h => by
    obtain ⟨f, rfl⟩ : ∃ g, f = g + 1 := ⟨f - 1, by omega⟩
    have hs240 := h.1.1
    have has := h.2.2.1
    have k1 := sk_ge T s a
    have k2 := sk_le (T := T) has
    obtain ⟨M1, e1, x1, h1⟩ := E_lookS (n := n) (xs := xs) (N := N) hN d h
    have ea : sk T s a = a := by omega
    rw [ea] at e1 h1
    rw [lu_X12_goOnAnd_0, if_pos h.2.2.2.1, e1, ra_I, Option.bind_some]
    dsimp only
    rw [cu_out (by omega), if_neg (by decide)]
    exact SM1.r x1 h1
  | j + 1, i, f, a, w, M, hi, hf, hia, h => by
    obtain ⟨f, rfl⟩ : ∃ g, f = g + 1 := ⟨f - 1, by omega⟩
    have hs240 := h.1.1
    have has := h.2.2.1
    have k1 := sk_ge T s a
    have hw0 := h.2.2.2.2.2.2.2.2
    obtain ⟨M1, e1, x1, h1⟩ := E_lookS (n := n) (xs := xs) (N := N) hN d h
    rw [lu_X12_goOnAnd_0, if_pos h.2.2.2.1, e1, ra_I, Option.bind_some]
    dsimp only
    unfold loopP
    by_cases c1 : cu T s (sk T s a) = 38
    · have hlt := cu_lt c1 (by decide)
      rw [if_pos c1, if_pos (Or.inl c1), c1, h1.2.1, nI_1]
      have h2 := h1.st hlt
      obtain ⟨q1, q2⟩ := hA _ _ _ h2
      dsimp only at q1 q2
      cases hr : P (sk T s a + 1) w with
      | inl p =>
        obtain ⟨M3, k, e3, x3, h3, b1, b2⟩ := q1 p hr
        obtain ⟨M4, e4, x4, h4⟩ := E_putF (n := n) (xs := xs) (N := N) (d + 1) 10 0 h3 (by omega)
        rw [e3, ra_V, Option.bind_some, e4, ra_V, Option.bind_some]
        obtain ⟨f, rfl⟩ : ∃ g, f = g + 1 := ⟨f - 1, by omega⟩
        rw [lu_X12_goOnAnd_0, if_neg (h4.ne (by omega))]
        exact SM1.l (((x1.tr LMf.w3).tr x3).tr x4) h4 (by omega) b2
      | inr v =>
        obtain ⟨b, w1⟩ := v
        obtain ⟨M3, e3, x3, h3⟩ := q2 b w1 hr
        obtain ⟨l1, l2⟩ := hL (sk T s a + 1) w b w1 (by omega) hr
        obtain ⟨M4, e4, x4, h4⟩ := E_putM (n := n) (xs := xs) (N := N) (d + 1) (o := 10) (v := 0) (sg := -38) h3 (by omega) (Or.inr (Or.inr (by decide)))
        rw [e3, ra_V, Option.bind_some, e4, ra_V, Option.bind_some]
        have := L_goOnAndM hN d hL hA j (i + 1) f b (w1 ++ [-38]) M4 (by omega) (by omega) (by omega) h4
        exact this.pre (((x1.tr LMf.w3).tr x3).tr x4) (by rw [List.length_append, List.length_cons, List.length_nil]; omega)
    · rw [if_neg c1, if_neg (fun q => q.elim c1 c1)]
      exact SM1.r x1 h1
theorem E_goOnAndF (d : Nat) : SPF t (fun M => mm_E n xs N (d + 1) 201 [.ref 60] M) := by
  intro M p k h hp
  dsimp only
  rw [u_X12_goOnAnd, if_neg (h.ne hp)]
  exact ⟨M, rfl, LMf.rf, h⟩
theorem E_goOnAndM (hN : 1000 ≤ N) (d : Nat) {P : Nat → List Int32 → RL} (hL : LN s P) (hA : SPM T s t D (fun M => mm_E n xs N (d + 2) 200 [.ref 60] M) P) : SPM T s t D (fun M => mm_E n xs N (d + 3) 201 [.ref 60] M) (loopP T s P 38 38 240) := by
  intro M a w h
  have := L_goOnAndM (n := n) (xs := xs) (N := N) hN d hL hA 240 0 (N + 1) a w M (by omega) (by omega) (by omega) h
  rw [lu_X12_goOnAnd_0] at this
  dsimp only
  rw [u_X12_goOnAnd]
  exact this
theorem L_goOnOrM (hN : 1000 ≤ N) (d : Nat) {P : Nat → List Int32 → RL} (hL : LN s P) (hA : SPM T s t D (fun M => (mm_aV (mm_E n xs N (d + 2) 200 [.ref 60] M)).bind fun p => mm_E n xs N (d + 2) 201 [.ref 60] p) P) : ∀ (j i f a : Nat) (w : List Int32) (M : mmM), i + j = 240 → j + 1 < f → i ≤ a → MS T s t D M a w → SM1 T s t D M a w (lp_X12_goOnOr n xs N (d + 2) f 0 [some (.ref 60)] [] M) (loopP T s P 124 124 j a w)
  | 0, i, f, a, w, M, hi, hf, hia, h => by
    obtain ⟨f, rfl⟩ : ∃ g, f = g + 1 := ⟨f - 1, by omega⟩
    have hs240 := h.1.1
    have has := h.2.2.1
    have k1 := sk_ge T s a
    have k2 := sk_le (T := T) has
    obtain ⟨M1, e1, x1, h1⟩ := E_lookS (n := n) (xs := xs) (N := N) hN d h
    have ea : sk T s a = a := by omega
    rw [ea] at e1 h1
    rw [lu_X12_goOnOr_0, if_pos h.2.2.2.1, e1, ra_I, Option.bind_some]
    dsimp only
    rw [cu_out (by omega), if_neg (by decide)]
    exact SM1.r x1 h1
  | j + 1, i, f, a, w, M, hi, hf, hia, h => by
    obtain ⟨f, rfl⟩ : ∃ g, f = g + 1 := ⟨f - 1, by omega⟩
    have hs240 := h.1.1
    have has := h.2.2.1
    have k1 := sk_ge T s a
    have hw0 := h.2.2.2.2.2.2.2.2
    obtain ⟨M1, e1, x1, h1⟩ := E_lookS (n := n) (xs := xs) (N := N) hN d h
    rw [lu_X12_goOnOr_0, if_pos h.2.2.2.1, e1, ra_I, Option.bind_some]
    dsimp only
    unfold loopP
    by_cases c1 : cu T s (sk T s a) = 124
    · have hlt := cu_lt c1 (by decide)
      rw [if_pos c1, if_pos (Or.inl c1), c1, h1.2.1, nI_1]
      have h2 := h1.st hlt
      obtain ⟨q1, q2⟩ := hA _ _ _ h2
      dsimp only at q1 q2
      have hh : ∀ (M' : mmM) (G : mmM → Option mmR), (mm_aV (mm_E n xs N (d + 2) 200 [.ref 60] M')).bind (fun p2 => (mm_aV (mm_E n xs N (d + 2) 201 [.ref 60] p2)).bind G) = (mm_aV ((mm_aV (mm_E n xs N (d + 2) 200 [.ref 60] M')).bind fun p => mm_E n xs N (d + 2) 201 [.ref 60] p)).bind G := fun M' G => aV_bind.symm
      rw [hh]
      cases hr : P (sk T s a + 1) w with
      | inl p =>
        obtain ⟨M3, k, e3, x3, h3, b1, b2⟩ := q1 p hr
        obtain ⟨M4, e4, x4, h4⟩ := E_putF (n := n) (xs := xs) (N := N) (d + 1) 11 0 h3 (by omega)
        rw [e3, ra_V, Option.bind_some, e4, ra_V, Option.bind_some]
        obtain ⟨f, rfl⟩ : ∃ g, f = g + 1 := ⟨f - 1, by omega⟩
        rw [lu_X12_goOnOr_0, if_neg (h4.ne (by omega))]
        exact SM1.l (((x1.tr LMf.w3).tr x3).tr x4) h4 (by omega) b2
      | inr v =>
        obtain ⟨b, w1⟩ := v
        obtain ⟨M3, e3, x3, h3⟩ := q2 b w1 hr
        obtain ⟨l1, l2⟩ := hL (sk T s a + 1) w b w1 (by omega) hr
        obtain ⟨M4, e4, x4, h4⟩ := E_putM (n := n) (xs := xs) (N := N) (d + 1) (o := 11) (v := 0) (sg := -124) h3 (by omega) (Or.inr (Or.inr (by decide)))
        rw [e3, ra_V, Option.bind_some, e4, ra_V, Option.bind_some]
        have := L_goOnOrM hN d hL hA j (i + 1) f b (w1 ++ [-124]) M4 (by omega) (by omega) (by omega) h4
        exact this.pre (((x1.tr LMf.w3).tr x3).tr x4) (by rw [List.length_append, List.length_cons, List.length_nil]; omega)
    · rw [if_neg c1, if_neg (fun q => q.elim c1 c1)]
      exact SM1.r x1 h1
theorem E_goOnOrF (d : Nat) : SPF t (fun M => mm_E n xs N (d + 1) 202 [.ref 60] M) := by
  intro M p k h hp
  dsimp only
  rw [u_X12_goOnOr, if_neg (h.ne hp)]
  exact ⟨M, rfl, LMf.rf, h⟩
theorem E_goOnOrM (hN : 1000 ≤ N) (d : Nat) {P : Nat → List Int32 → RL} (hL : LN s P) (hA : SPM T s t D (fun M => (mm_aV (mm_E n xs N (d + 2) 200 [.ref 60] M)).bind fun p => mm_E n xs N (d + 2) 201 [.ref 60] p) P) : SPM T s t D (fun M => mm_E n xs N (d + 3) 202 [.ref 60] M) (loopP T s P 124 124 240) := by
  intro M a w h
  have := L_goOnOrM (n := n) (xs := xs) (N := N) hN d hL hA 240 0 (N + 1) a w M (by omega) (by omega) (by omega) h
  rw [lu_X12_goOnOr_0] at this
  dsimp only
  rw [u_X12_goOnOr]
  exact this
end MF
