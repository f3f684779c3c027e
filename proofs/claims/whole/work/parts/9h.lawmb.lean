section MB
variable {n : Nat} {xs : Nat → Int32} {N : Nat} {M M' M1 M2 : mmM} {T : Nat → Int32} {s t D a b p k : Nat} {w : List Int32}
theorem E_ltM (d : Nat) (M : mmM) (c : Int32) : mm_E n xs N (d + 1) 191 [.int c] M = some (some (.int (match ltr (-c) with | some i => nI i | none => -1)), M) := by
  rw [u_X12_letterOf]
  unfold ltr
  by_cases a1 : c = 119
  · subst a1; rfl
  rw [if_neg a1, if_neg (show ¬ -c = -119 from fun w => a1 (Int32.neg_inj.mp w))]
  by_cases a2 : c = 115
  · subst a2; rfl
  rw [if_neg a2, if_neg (show ¬ -c = -115 from fun w => a2 (Int32.neg_inj.mp w))]
  by_cases a3 : c = 110
  · subst a3; rfl
  rw [if_neg a3, if_neg (show ¬ -c = -110 from fun w => a3 (Int32.neg_inj.mp w))]
  by_cases a4 : c = 121
  · subst a4; rfl
  rw [if_neg a4, if_neg (show ¬ -c = -121 from fun w => a4 (Int32.neg_inj.mp w))]
  by_cases a5 : c = 97
  · subst a5; rfl
  rw [if_neg a5, if_neg (show ¬ -c = -97 from fun w => a5 (Int32.neg_inj.mp w))]
  by_cases a6 : c = 99
  · subst a6; rfl
  rw [if_neg a6, if_neg (show ¬ -c = -99 from fun w => a6 (Int32.neg_inj.mp w))]
theorem E_hereS (d : Nat) (h : MS T s t D M a w) : mm_E n xs N (d + 1) 186 [.ref 60] M = some (some (.int (cu T s a)), M) := E_here d h.1 h.2.1 (by have := h.1.1; have := h.2.2.1; omega)
theorem L_plain (d : Nat) : ∀ (j i a f v : Nat) (M : mmM), i + j = 4 → j < f → MS T s t D M a w → v < 10 ^ i → (dg (cu T s (nmF T s j a v).1) = true → ∃ M1, lp_X12_plainNumber n xs N (d + 1) f 4 [some (.ref 60), some (.int (nI v)), some (.int (nI i))] [] M = some (some (.int (nI (nmF T s j a v).2)), M1) ∧ LMf t M M1 ∧ MFl t M1 (nmF T s j a v).1 w.length) ∧ (dg (cu T s (nmF T s j a v).1) = false → ∃ M1, lp_X12_plainNumber n xs N (d + 1) f 4 [some (.ref 60), some (.int (nI v)), some (.int (nI i))] [] M = some (some (.int (nI (nmF T s j a v).2)), M1) ∧ LMf t M M1 ∧ MS T s t D M1 (nmF T s j a v).1 w) := by
  intro j
  induction j with
  | zero =>
    intro i a f v M hij hf h hv
    obtain ⟨f, rfl⟩ : ∃ g, f = g + 1 := ⟨f - 1, by omega⟩
    rw [lu_X12_plainNumber_4, if_pos (show (4 : Int32) ≤ nI i from by rw [show i = 4 by omega]; decide), E_hereS d h, ra_I, Option.bind_some]
    dsimp only
    rw [E_dgM d, ra_I, Option.bind_some]
    dsimp only
    show (dg (cu T s a) = true → _) ∧ (dg (cu T s a) = false → _)
    refine ⟨fun q => ?_, fun q => ?_⟩
    · rw [q, if_neg (show ¬ mb true = 0 by decide), E_badS d h, ra_V, Option.bind_some]
      exact ⟨_, rfl, LMf.w4, h.bad⟩
    · rw [q, if_pos (show mb false = 0 by decide)]
      exact ⟨_, rfl, LMf.rf, h⟩
  | succ j ih =>
    intro i a f v M hij hf h hv
    obtain ⟨f, rfl⟩ : ∃ g, f = g + 1 := ⟨f - 1, by omega⟩
    have hs := h.1.1
    rw [lu_X12_plainNumber_4, if_neg (show ¬ (4 : Int32) ≤ nI i from (show ¬ nI 4 ≤ nI i from nI_ge (show i < 4 by omega) (by omega))), E_hereS d h, ra_I, Option.bind_some]
    dsimp only
    rw [E_dgM d, ra_I, Option.bind_some]
    dsimp only
    cases q : dg (cu T s a) with
    | false =>
      have e : nmF T s (j + 1) a v = (a, v) := by unfold nmF; rw [if_neg (by rw [q]; decide)]
      rw [e, if_pos (show mb false = 0 by decide), E_hereS d h, ra_I, Option.bind_some]
      dsimp only
      rw [E_dgM d, ra_I, Option.bind_some]
      dsimp only
      rw [q, if_pos (show mb false = 0 by decide)]
      exact ⟨(fun w => by cases w), (fun _ => ⟨M, rfl, LMf.rf, h⟩)⟩
    | true =>
      have hlt : a < s := by
        apply Decidable.byContradiction
        intro w
        rw [cu_out (by omega), dg_m1] at q
        cases q
      obtain ⟨k, hk, ek⟩ := dg_n q
      have ek2 : (cu T s a).toNatClampNeg - 48 = k := by rw [ek, nI_clamp (by omega)]; omega
      have h3 : 10 ^ i ≤ 10 ^ 4 := Nat.pow_le_pow_right (by omega) (by omega)
      have hvb : 10 * v + k < 10 ^ (i + 1) := by
        rw [Nat.pow_succ]
        omega
      have e2 : (10 : Int32) * nI v + cu T s a - 48 = nI (10 * v + k) := by
        rw [ek, show (10 : Int32) = nI 10 from rfl, pk_mul, nI_add, show (48 : Int32) = nI 48 from rfl, pk_sub (by omega), show 10 * v + (48 + k) - 48 = 10 * v + k by omega]
      have e : nmF T s (j + 1) a v = nmF T s j (a + 1) (10 * v + k) := by
        show (if dg (cu T s a) = true then nmF T s j (a + 1) (10 * v + ((cu T s a).toNatClampNeg - 48)) else (a, v)) = _
        rw [if_pos q, ek2]
      rw [if_neg (show ¬ mb true = 0 by decide), E_hereS d h, ra_I, Option.bind_some]
      dsimp only
      rw [e2, h.2.1, nI_1, nI_1, e]
      obtain ⟨u1, u2⟩ := ih (i + 1) (a + 1) f (10 * v + k) (mm_wI M 60 3 (nI (a + 1))) (by omega) (by omega) (h.st hlt) hvb
      refine ⟨fun g => ?_, fun g => ?_⟩
      · obtain ⟨M5, m1, m2, m3⟩ := u1 g
        exact ⟨M5, m1, LMf.w3.tr m2, m3⟩
      · obtain ⟨M5, m1, m2, m3⟩ := u2 g
        exact ⟨M5, m1, LMf.w3.tr m2, m3⟩
theorem E_plain (hN : 1000 ≤ N) (d : Nat) (h : MS T s t D M a w) : (dg (cu T s (nmF T s 4 a 0).1) = true → ∃ M1, mm_E n xs N (d + 2) 194 [.ref 60] M = some (some (.int (nI (nmF T s 4 a 0).2)), M1) ∧ LMf t M M1 ∧ MFl t M1 (nmF T s 4 a 0).1 w.length) ∧ (dg (cu T s (nmF T s 4 a 0).1) = false → ∃ M1, mm_E n xs N (d + 2) 194 [.ref 60] M = some (some (.int (nI (nmF T s 4 a 0).2)), M1) ∧ LMf t M M1 ∧ MS T s t D M1 (nmF T s 4 a 0).1 w) := by
  have := L_plain (n := n) (xs := xs) (N := N) d 4 0 a N 0 M (by omega) (by omega) h (by decide)
  rw [nI_0] at this
  rw [u_X12_plainNumber]
  exact this
theorem E_opens1 (d : Nat) (h : MS T s t D M a w) (hD : D < 6) (ha : a < s) : ∃ M1, mm_E n xs N (d + 1) 192 [.ref 60] M = some (none, M1) ∧ LMf t M M1 ∧ MS T s t (D + 1) M1 (a + 1) w := by
  rw [u_X12_opens, h.2.2.2.2.1, if_neg (show ¬ nI D = (6 : Int32) from fun q => by have := (nI_eq (a := D) (b := 6) (by omega) (by omega)).mp q; omega), h.2.1, nI_1, nI_1]
  exact ⟨_, rfl, LMf.w5.tr LMf.w3, (h.d5 (D + 1)).st ha⟩
theorem E_opens0 (d : Nat) (h : MS T s t 6 M a w) : ∃ M1, mm_E n xs N (d + 2) 192 [.ref 60] M = some (none, M1) ∧ LMf t M M1 ∧ MFl t M1 a w.length := by
  rw [u_X12_opens, h.2.2.2.2.1, if_pos (show nI 6 = (6 : Int32) from rfl), E_badS d h, ra_V, Option.bind_some]
  refine ⟨_, rfl, (LMf.w4.tr LMf.w5).tr LMf.w3, ?_⟩
  obtain ⟨b1, b2, b3, b4⟩ := h.bad
  exact ⟨by rw [I_s, if_neg (by decide), I_s, if_neg (by decide)]; exact b1, by rw [I_s, if_neg (by decide), I_s, if_neg (by decide)]; exact b2, b3, by rw [I_wn (by decide), I_wn (by decide)]; exact b4⟩
theorem MFl.w3 {x : Int32} (h : MFl t M p k) : MFl t (mm_wI M 60 3 x) p k := by
  obtain ⟨b1, b2, b3, b4⟩ := h
  exact ⟨by rw [I_s, if_neg (by decide)]; exact b1, by rw [I_s, if_neg (by decide)]; exact b2, b3, by rw [I_wn (by decide)]; exact b4⟩
theorem MFl.w5 {x : Int32} (h : MFl t M p k) : MFl t (mm_wI M 60 5 x) p k := by
  obtain ⟨b1, b2, b3, b4⟩ := h
  exact ⟨by rw [I_s, if_neg (by decide)]; exact b1, by rw [I_s, if_neg (by decide)]; exact b2, b3, by rw [I_wn (by decide)]; exact b4⟩
theorem E_closesF (d : Nat) (c : Int32) (h : MFl t M p k) (hp : p ≤ 240) : ∃ M1, mm_E n xs N (d + 1) 193 [.ref 60, .int c] M = some (none, M1) ∧ LMf t M M1 ∧ MFl t M1 p k := by
  rw [u_X12_closes, if_neg (h.ne hp)]
  exact ⟨_, rfl, LMf.w3.tr LMf.w5, h.w3.w5⟩
theorem E_closes (hN : 1000 ≤ N) (d : Nat) {c : Int32} (hc : c ≠ -1) (h : MS T s t (D + 1) M a w) : (∀ p, mustP T s c a w = .inl p → ∃ M1, mm_E n xs N (d + 3) 193 [.ref 60, .int c] M = some (none, M1) ∧ LMf t M M1 ∧ MFl t M1 p w.length ∧ a ≤ p ∧ p ≤ s) ∧ ∀ a' w', mustP T s c a w = .inr (a', w') → ∃ M1, mm_E n xs N (d + 3) 193 [.ref 60, .int c] M = some (none, M1) ∧ LMf t M M1 ∧ MS T s t D M1 a' w' := by
  have k1 := sk_ge T s a
  have k2 := sk_le (T := T) h.2.2.1
  obtain ⟨M1, e1, x1, m1⟩ := E_lookS (n := n) (xs := xs) (N := N) hN d h
  rw [u_X12_closes, if_pos h.2.2.2.1, e1, ra_I, Option.bind_some]
  dsimp only
  unfold mustP
  by_cases q : cu T s (sk T s a) = c
  · have hlt := cu_lt q hc
    rw [if_pos q, if_pos q, m1.2.1, m1.2.2.2.2.1, nI_1, show nI (D + 1) - (1 : Int32) = nI D from by rw [show (1 : Int32) = nI 1 from rfl, pk_sub (by omega), show D + 1 - 1 = D by omega]]
    exact ⟨(fun p e => by cases e), (fun a' w' e => by cases e; exact ⟨_, rfl, (x1.tr LMf.w3).tr LMf.w5, (m1.st hlt).d5 D⟩)⟩
  · rw [if_neg q, if_neg q, E_badS (d + 1) m1, ra_V, Option.bind_some]
    exact ⟨(fun p e => by cases e; exact ⟨_, rfl, ((x1.tr LMf.w4).tr LMf.w3).tr LMf.w5, m1.bad.w3.w5, k1, k2⟩), (fun a' w' e => by cases e)⟩
end MB
