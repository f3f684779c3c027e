section WL
variable {T : Nat → Int32} {s : Nat}
/-- a test as it must be -/
def TS0 (s a : Nat) (r : RL) : Prop := (∀ p, r = .inl p → p ≤ s) ∧ ∀ a' c, r = .inr (a', c) → a' ≤ s ∧ a + c.length ≤ a' ∧ WTk 21 true c
/-- a clause's inside as it must be -/
def CL0 (s a : Nat) (r : Nat ⊕ (Nat × List Int32 × List Int32)) : Prop := (∀ p, r = .inl p → p ≤ s) ∧ ∀ b c t, r = .inr (b, c, t) → b ≤ s ∧ (c = [] ∨ tyR c [] = some [true]) ∧ tyR t [] = some [false] ∧ a + c.length + (if c = [] then 0 else 1) + t.length ≤ b
theorem tst_ok {a : Nat} {r : RL} (h : TS0 s a r) : CL0 s a (tstP T s r) := by
  cases r with
  | inl p => exact ⟨(fun q e => by cases e; exact h.1 p rfl), (fun b c t e => by cases e)⟩
  | inr q =>
    obtain ⟨b, c⟩ := q
    obtain ⟨h1, h2, h3⟩ := h.2 b c rfl
    have k1 := sk_ge T s b
    have k2 := sk_le (T := T) h1
    unfold tstP mustP
    dsimp only
    by_cases hq : cu T s (sk T s b) = 63
    · rw [if_pos hq]
      have hlt := cu_lt hq (by decide)
      obtain ⟨p1, p2⟩ := GP_sumD (T := T) (s := s) 6 (sk T s b + 1) [] (by omega)
      show CL0 s a (match sumD T s 6 (sk T s b + 1) [] with | .inl p => .inl p | .inr v => .inr (v.1, c, v.2))
      cases hr : sumD T s 6 (sk T s b + 1) [] with
      | inl p => exact ⟨(fun q e => by cases e; exact p1 p hr), (fun b c t e => by cases e)⟩
      | inr v =>
        obtain ⟨b2, w⟩ := v
        obtain ⟨g1, l, g2, g3, g4⟩ := p2 b2 w hr
        rw [List.nil_append] at g2
        subst g2
        have hle : a + c.length + (if c = [] then 0 else 1) + w.length ≤ b2 := by split <;> omega
        exact ⟨(fun q e => by cases e), (fun b' c' t e => by cases e; exact ⟨g1, Or.inr (h3 [] (by decide)), g4 [] (by decide), hle⟩)⟩
    · rw [if_neg hq]
      exact ⟨(fun p e => by cases e; exact k2), (fun b c t e => by cases e)⟩
theorem clin_ok {a : Nat} (ha : a ≤ s) : CL0 s a (clinP T s a) := by
  have k1 := sk_ge T s a
  have k2 := sk_le (T := T) ha
  have hU := GP_unitD (T := T) (s := s) 6
  unfold clinP
  by_cases hq : cu T s (sk T s a) = 33 ∨ cu T s (sk T s a) = 40
  · rw [if_pos hq]
    refine tst_ok ?_
    obtain ⟨p1, p2⟩ := GP_con (T := T) hU (by omega) (sk T s a) [] k2
    refine ⟨p1, fun a' c e => ?_⟩
    obtain ⟨g1, l, g2, g3, g4⟩ := p2 a' c e
    rw [List.nil_append] at g2
    subst g2
    exact ⟨g1, by omega, g4.mono (by omega)⟩
  · rw [if_neg hq]
    obtain ⟨p1, p2⟩ := GP_sumD (T := T) (s := s) 6 (sk T s a) [] k2
    cases hr : sumD T s 6 (sk T s a) [] with
    | inl p => exact ⟨(fun q e => by cases e; exact p1 p hr), (fun b c t e => by cases e)⟩
    | inr v =>
      obtain ⟨b, w⟩ := v
      obtain ⟨g1, l, g2, g3, g4⟩ := p2 b w hr
      rw [List.nil_append] at g2
      subst g2
      dsimp only
      have j1 := sk_ge T s b
      have j2 := sk_le (T := T) g1
      by_cases hc : isC (cu T s (sk T s b)) = true
      · rw [if_pos hc]
        refine tst_ok ?_
        obtain ⟨q1, q2⟩ := GP_cmp (T := T) (s := s) 6 (H := 19) (a0 := a) (w0 := []) (l0 := w) (by omega) j2 (by omega) (g4.mono (by omega))
        rw [List.nil_append] at q1 q2
        cases hx : cmpP T s 6 (sk T s b) w with
        | inl p => exact ⟨(fun q e => by cases e; exact q1 p hx), (fun b c e => by cases e)⟩
        | inr v =>
          obtain ⟨b1, w1⟩ := v
          obtain ⟨m1, l1, m2, m3, m4⟩ := q2 b1 w1 hx
          rw [List.nil_append] at m2
          subst m2
          obtain ⟨r1, r2⟩ := GP_loop (T := T) (c1 := 38) (c2 := 38) hU (by decide) (fun _ => rfl) (fun _ => rfl) (H := 20) (by omega) (by omega) 240 a b1 [] w1 m1 m3 (m4.mono (by omega))
          rw [List.nil_append] at r1 r2
          show TS0 s a (thenR (andP T s (unitD T s 6) b1 w1) (orP T s (unitD T s 6)))
          unfold andP
          cases hy : loopP T s (unitD T s 6) 38 38 240 b1 w1 with
          | inl p => exact ⟨(fun q e => by cases e; exact r1 p hy), (fun b c e => by cases e)⟩
          | inr v =>
            obtain ⟨b2, w2⟩ := v
            obtain ⟨n1, l2, n2, n3, n4⟩ := r2 b2 w2 hy
            rw [List.nil_append] at n2
            subst n2
            have hT2 : GP s 18 true (truP T s (unitD T s 6)) := GP_then hU (by decide) (fun _ => rfl) (fun _ => rfl) (by omega) (by omega)
            obtain ⟨u1, u2⟩ := GP_loop (T := T) (c1 := 124) (c2 := 124) hT2 (by decide) (fun _ => rfl) (fun _ => rfl) (H := 21) (by omega) (by omega) 240 a b2 [] w2 n1 n3 (n4.mono (by omega))
            rw [List.nil_append] at u1 u2
            refine ⟨u1, fun a' c e => ?_⟩
            obtain ⟨v1, l3, v2, v3, v4⟩ := u2 a' c e
            rw [List.nil_append] at v2
            subst v2
            exact ⟨v1, v3, v4⟩
      · rw [if_neg hc]
        refine ⟨(fun p e => by cases e), (fun b' c' t e => by cases e; exact ⟨j2, Or.inl rfl, g4 [] (by decide), by rw [if_pos rfl, List.length_nil]; omega⟩)⟩
end WL
