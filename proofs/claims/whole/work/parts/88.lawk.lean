section WK
variable {T : Nat → Int32} {s : Nat}
theorem isC_t {c : Int32} (h : isC c = true) : c ≠ -1 ∧ ∀ r, tyS (-c) (false :: false :: r) = some (true :: r) := by
  have : c = 61 ∨ c = 60 ∨ c = 62 := by
    unfold isC at h
    simp only [Bool.or_eq_true, beq_iff_eq] at h
    rcases h with (h | h) | h
    · exact Or.inl h
    · exact Or.inr (Or.inl h)
    · exact Or.inr (Or.inr h)
  rcases this with g | g | g <;> subst g <;> exact ⟨by decide, fun _ => rfl⟩
/-- a comparison behind a sum that is read -/
theorem GP_cmp (g : Nat) {H : Nat} (hH : 5 + 2 * g ≤ H) {a0 a : Nat} {w0 l0 : List Int32} (ha : a ≤ s) (h0 : a0 + l0.length ≤ a) (hw : WTk H false l0) : (∀ p, cmpP T s g a (w0 ++ l0) = .inl p → p ≤ s) ∧ ∀ a' w', cmpP T s g a (w0 ++ l0) = .inr (a', w') → a' ≤ s ∧ ∃ l, w' = w0 ++ l ∧ a0 + l.length ≤ a' ∧ WTk H true l := by
  have k1 := sk_ge T s a
  have k2 := sk_le (T := T) ha
  unfold cmpP
  by_cases hc : isC (cu T s (sk T s a)) = true
  · rw [if_pos hc]
    obtain ⟨c1, c2⟩ := isC_t hc
    have hlt := cu_lt (T := T) (s := s) (a := sk T s a) rfl c1
    obtain ⟨p1, p2⟩ := GP_sumD (T := T) (s := s) g (sk T s a + 1) (w0 ++ l0) (by omega)
    cases hr : sumD T s g (sk T s a + 1) (w0 ++ l0) with
    | inl p => exact ⟨(fun q e => by cases e; exact p1 p hr), (fun a' w' e => by cases e)⟩
    | inr q =>
      obtain ⟨b, w1⟩ := q
      obtain ⟨g1, l, g2, g3, g4⟩ := p2 b w1 hr
      refine ⟨(fun q e => by cases e), (fun a' w' e => by cases e; exact ⟨g1, l0 ++ (l ++ [-(cu T s (sk T s a))]), by rw [g2, List.append_assoc, List.append_assoc], by rw [List.length_append, List.length_append, List.length_cons, List.length_nil]; omega, WTk.bin hw g4 c2 (Nat.le_refl _) (by omega) (by omega)⟩)⟩
  · rw [if_neg hc]
    exact ⟨(fun p e => by cases e; exact k2), (fun a' w' e => by cases e)⟩
theorem GP_con {u : Nat → List Int32 → RL} {h : Nat} (hu : GP s h true u) (h2 : 2 ≤ h) : GP s (h + 2) true (conP T s u) :=
  GP_then (GP_then hu (by decide) (fun _ => rfl) (fun _ => rfl) (Nat.le_refl _) (by omega)) (by decide) (fun _ => rfl) (fun _ => rfl) (Nat.le_refl _) (by omega)
theorem WTk_not {h : Nat} {l : List Int32} (w : WTk h true l) (h2 : 2 ≤ h) : WTk h true (l ++ [-33]) := by
  intro ts hs
  rw [tyR_app, w ts hs, Option.bind_some]
  show (if (true :: ts).length < 60 then (tyS (-33) (true :: ts)).bind (tyR []) else none) = _
  rw [if_pos (by rw [List.length_cons]; omega)]
  rfl
theorem GP_unit {sub : Option (Nat → List Int32 → RL)} {g h H : Nat} (hs : ∀ u, sub = some u → GP s h true u) (h2 : 2 ≤ h) (h3 : h + 2 ≤ H) (hg : 5 + 2 * g ≤ H) : GP s H true (unitP T s sub g) := by
  intro a w ha
  have k1 := sk_ge T s a
  have k2 := sk_le (T := T) ha
  unfold unitP
  by_cases c1 : cu T s (sk T s a) = 33
  · rw [if_pos c1]
    have hlt := cu_lt c1 (by decide)
    cases sub with
    | none => exact ⟨(fun p e => by cases e; exact k2), (fun a' w' e => by cases e)⟩
    | some u =>
      obtain ⟨p1, p2⟩ := hs u rfl (sk T s a + 1) w (by omega)
      dsimp only
      cases hr : u (sk T s a + 1) w with
      | inl p => exact ⟨(fun q e => by cases e; exact p1 p hr), (fun a' w' e => by cases e)⟩
      | inr q =>
        obtain ⟨b, w1⟩ := q
        obtain ⟨g1, l, g2, g3, g4⟩ := p2 b w1 hr
        exact ⟨(fun q e => by cases e), (fun a' w' e => by cases e; exact ⟨g1, l ++ [-33], by rw [g2, List.append_assoc], by rw [List.length_append, List.length_cons, List.length_nil]; omega, (WTk_not g4 h2).mono (by omega)⟩)⟩
  rw [if_neg c1]
  by_cases c2 : cu T s (sk T s a) = 40
  · rw [if_pos c2]
    have hlt := cu_lt c2 (by decide)
    cases sub with
    | none => exact ⟨(fun p e => by cases e; exact k2), (fun a' w' e => by cases e)⟩
    | some u =>
      obtain ⟨p1, p2⟩ := GP_must (T := T) (c := 41) (GP_con (T := T) (hs u rfl) h2) (by decide) (sk T s a + 1) w (by omega)
      refine ⟨p1, fun a' w' e => ?_⟩
      obtain ⟨g1, l, g2, g3, g4⟩ := p2 a' w' e
      exact ⟨g1, l, g2, by omega, g4.mono h3⟩
  · rw [if_neg c2]
    obtain ⟨p1, p2⟩ := GP_sumD (T := T) (s := s) g (sk T s a) w k2
    cases hr : sumD T s g (sk T s a) w with
    | inl p => exact ⟨(fun q e => by cases e; exact p1 p hr), (fun a' w' e => by cases e)⟩
    | inr q =>
      obtain ⟨b, w1⟩ := q
      obtain ⟨g1, l, g2, g3, g4⟩ := p2 b w1 hr
      subst g2
      exact GP_cmp g hg g1 (by omega) (g4.mono (by omega))
theorem GP_unitD : ∀ g : Nat, GP s (5 + 2 * g) true (unitD T s g)
  | 0 => GP_unit (h := 2) (fun u e => by cases e) (by omega) (by omega) (by omega)
  | g + 1 => GP_unit (h := 5 + 2 * g) (fun u e => by cases e; exact GP_unitD g) (by omega) (by omega) (by omega)
end WK
