theorem encL_snoc : ∀ (L : List (List Int32 × List Int32)) (c t : List Int32), (encL (L ++ [(c, t)])).length = (encL L).length + (c.length + (if c = [] then 0 else 1) + t.length + 1)
  | [], c, t => by
    show (c ++ ((if c = [] then [] else [-63]) ++ (t ++ [-59]))).length = 0 + _
    rw [List.length_append, List.length_append, List.length_append, List.length_cons, List.length_nil]
    split
    · rw [List.length_nil]; omega
    · rw [List.length_cons, List.length_nil]; omega
  | q :: L, c, t => by
    show (q.1 ++ ((if q.1 = [] then [] else [-63]) ++ (q.2 ++ (-59 :: encL (L ++ [(c, t)]))))).length = (q.1 ++ ((if q.1 = [] then [] else [-63]) ++ (q.2 ++ (-59 :: encL L)))).length + _
    rw [List.length_append, List.length_append, List.length_append, List.length_append, List.length_append, List.length_append, List.length_cons, List.length_cons, encL_snoc L c t]
    omega
section WN
variable {T : Nat → Int32} {s : Nat}
theorem clau_ok {a : Nat} (ha : a ≤ s) : CL0 s (a + 2) (clauP T s a) := by
  have k1 := sk_ge T s a
  have k2 := sk_le (T := T) ha
  unfold clauP
  by_cases h1 : cu T s (sk T s a) = 121
  · have l1 := cu_lt h1 (by decide)
    have e1 : mustP T s 121 a [] = .inr (sk T s a + 1, []) := by unfold mustP; rw [if_pos h1]
    have j1 := sk_ge T s (sk T s a + 1)
    have j2 := sk_le (T := T) (s := s) (a := sk T s a + 1) (by omega)
    rw [e1]
    show CL0 s (a + 2) (match mustP T s 58 (sk T s a + 1) [] with | .inl p => .inl p | .inr v => clinP T s v.1)
    by_cases h2 : cu T s (sk T s (sk T s a + 1)) = 58
    · have l2 := cu_lt h2 (by decide)
      have e2 : mustP T s 58 (sk T s a + 1) [] = .inr (sk T s (sk T s a + 1) + 1, []) := by unfold mustP; rw [if_pos h2]
      rw [e2]
      obtain ⟨p1, p2⟩ := clin_ok (T := T) (s := s) (a := sk T s (sk T s a + 1) + 1) (by omega)
      refine ⟨p1, fun b c t e => ?_⟩
      obtain ⟨g1, g2, g3, g4⟩ := p2 b c t e
      exact ⟨g1, g2, g3, by omega⟩
    · have e2 : mustP T s 58 (sk T s a + 1) [] = .inl (sk T s (sk T s a + 1)) := by unfold mustP; rw [if_neg h2]
      rw [e2]
      exact ⟨(fun p e => by cases e; exact j2), (fun b c t e => by cases e)⟩
  · have e1 : mustP T s 121 a [] = .inl (sk T s a) := by unfold mustP; rw [if_neg h1]
    rw [e1]
    exact ⟨(fun p e => by cases e; exact k2), (fun b c t e => by cases e)⟩
theorem law_ok : ∀ (f a : Nat) (L : List (List Int32 × List Int32)), a ≤ s → WFL L → (encL L).length ≤ a → 2 * L.length ≤ a → (∀ p, lawP T s f a L = .inl p → p ≤ s) ∧ ∀ L', lawP T s f a L = .inr L' → WFL L' ∧ (encL L').length ≤ s ∧ 2 * L'.length ≤ s
  | 0, a, L, ha, _, _, _ => ⟨(fun p e => by cases e; exact ha), (fun L' e => by cases e)⟩
  | f + 1, a, L, ha, hw, he, hn => by
    obtain ⟨p1, p2⟩ := clau_ok (T := T) ha
    unfold lawP
    cases hr : clauP T s a with
    | inl p => exact ⟨(fun q e => by cases e; exact p1 p hr), (fun L' e => by cases e)⟩
    | inr v =>
      obtain ⟨b, c, t⟩ := v
      obtain ⟨g1, g2, g3, g4⟩ := p2 b c t hr
      have k1 := sk_ge T s b
      have k2 := sk_le (T := T) g1
      have hw' : WFL (L ++ [(c, t)]) := by
        intro q hq
        rcases List.mem_append.mp hq with w | w
        · exact hw q w
        · rw [List.mem_singleton.mp w]; exact ⟨g2, g3⟩
      have he' : (encL (L ++ [(c, t)])).length ≤ b := by rw [encL_snoc]; omega
      have hn' : 2 * (L ++ [(c, t)]).length ≤ b := by rw [List.length_append, List.length_cons, List.length_nil]; omega
      dsimp only
      by_cases h1 : cu T s (sk T s b) = 59
      · rw [if_pos h1]
        have := cu_lt h1 (by decide)
        exact law_ok f (sk T s b + 1) _ (by omega) hw' (by omega) (by omega)
      · rw [if_neg h1]
        by_cases h2 : cu T s (sk T s b) = -1
        · rw [if_pos h2]
          exact ⟨(fun p e => by cases e), (fun L' e => by cases e; exact ⟨hw', by omega, by omega⟩)⟩
        · rw [if_neg h2]
          exact ⟨(fun p e => by cases e; exact k2), (fun L' e => by cases e)⟩
end WN
