theorem ltr_c {t : Int32} (h : (ltr t).isSome = true) : t = -119 ∨ t = -115 ∨ t = -110 ∨ t = -121 ∨ t = -97 ∨ t = -99 := by
  unfold ltr at h
  by_cases a1 : t = -119
  · exact Or.inl a1
  rw [if_neg a1] at h
  by_cases a2 : t = -115
  · exact Or.inr (Or.inl a2)
  rw [if_neg a2] at h
  by_cases a3 : t = -110
  · exact Or.inr (Or.inr (Or.inl a3))
  rw [if_neg a3] at h
  by_cases a4 : t = -121
  · exact Or.inr (Or.inr (Or.inr (Or.inl a4)))
  rw [if_neg a4] at h
  by_cases a5 : t = -97
  · exact Or.inr (Or.inr (Or.inr (Or.inr (Or.inl a5))))
  rw [if_neg a5] at h
  by_cases a6 : t = -99
  · exact Or.inr (Or.inr (Or.inr (Or.inr (Or.inr a6))))
  rw [if_neg a6] at h
  exact absurd h (by decide)
theorem tyS_ltr {t : Int32} (h : (ltr t).isSome = true) (ts : List Bool) : tyS t ts = some (false :: ts) := by
  rcases ltr_c h with g | g | g | g | g | g <;> subst g <;> rfl
theorem WTk_1 {t : Int32} (h : ∀ ts, tyS t ts = some (false :: ts)) : WTk 1 false [t] := by
  intro ts hs
  show (if ts.length < 60 then (tyS t ts).bind (tyR []) else none) = _
  rw [if_pos (by omega), h]
  rfl
section WU
variable {T : Nat → Int32} {s : Nat}
theorem GP_must {P : Nat → List Int32 → RL} {h : Nat} {k : Bool} {c : Int32} (hP : GP s h k P) (hc : c ≠ -1) : GP s h k (fun a w => thenR (P a w) (mustP T s c)) := by
  intro a w ha
  obtain ⟨p1, p2⟩ := hP a w ha
  dsimp only
  cases hr : P a w with
  | inl p => exact ⟨(fun q e => by cases e; exact p1 p hr), (fun a' w' e => by cases e)⟩
  | inr q =>
    obtain ⟨b, w1⟩ := q
    obtain ⟨g1, l, g2, g3, g4⟩ := p2 b w1 hr
    have k1 := sk_ge T s b
    have k2 := sk_le (T := T) g1
    show (∀ p, mustP T s c b w1 = .inl p → p ≤ s) ∧ ∀ a' w', mustP T s c b w1 = .inr (a', w') → _
    unfold mustP
    by_cases hq : cu T s (sk T s b) = c
    · rw [if_pos hq]
      have := cu_lt hq hc
      exact ⟨(fun p e => by cases e), (fun a' w' e => by cases e; exact ⟨by omega, l, g2, by omega, g4⟩)⟩
    · rw [if_neg hq]
      exact ⟨(fun p e => by cases e; exact k2), (fun a' w' e => by cases e)⟩
theorem GP_atom {sub : Option (Nat → List Int32 → RL)} {h : Nat} (hs : ∀ f, sub = some f → GP s h false f) (h1 : 1 ≤ h) : GP s h false (atomP T s sub) := by
  intro a w ha
  have k1 := sk_ge T s a
  have k2 := sk_le (T := T) ha
  unfold atomP
  by_cases c1 : dg (cu T s (sk T s a)) = true
  · rw [if_pos c1]
    have hlt : sk T s a < s := by
      apply Decidable.byContradiction
      intro q
      rw [cu_out (by omega), dg_m1] at c1
      cases c1
    have hge : sk T s a + 1 ≤ (nmF T s 4 (sk T s a) 0).1 ∧ (nmF T s 4 (sk T s a) 0).1 ≤ s := by
      unfold nmF
      rw [if_pos c1]
      exact nmF_ge T s 3 _ _ (by omega)
    have hv := nmF_v T s 4 (sk T s a) 0
    by_cases c2 : dg (cu T s (nmF T s 4 (sk T s a) 0).1) = true
    · rw [if_pos c2]
      exact ⟨(fun p e => by cases e; exact hge.2), (fun a' w' e => by cases e)⟩
    · rw [if_neg c2]
      have hi : (nI (nmF T s 4 (sk T s a) 0).2).toInt = (nmF T s 4 (sk T s a) 0).2 := nI_toInt (by omega)
      have ht : ∀ ts, tyS (nI (nmF T s 4 (sk T s a) 0).2) ts = some (false :: ts) := by
        intro ts
        unfold tyS
        rw [if_pos (by rw [hi]; omega), if_pos (by rw [hi]; omega)]
      exact ⟨(fun p e => by cases e), (fun a' w' e => by cases e; exact ⟨hge.2, [nI (nmF T s 4 (sk T s a) 0).2], rfl, by rw [List.length_cons, List.length_nil]; omega, (WTk_1 ht).mono h1⟩)⟩
  rw [if_neg c1]
  by_cases c2 : (ltr (-(cu T s (sk T s a)))).isSome = true
  · rw [if_pos c2]
    have hlt : sk T s a < s := by
      apply Decidable.byContradiction
      intro q
      rw [cu_out (by omega)] at c2
      exact absurd c2 (by decide)
    exact ⟨(fun p e => by cases e), (fun a' w' e => by cases e; exact ⟨by omega, [-(cu T s (sk T s a))], rfl, by rw [List.length_cons, List.length_nil]; omega, (WTk_1 (tyS_ltr c2)).mono h1⟩)⟩
  rw [if_neg c2]
  by_cases c3 : cu T s (sk T s a) = 91
  · rw [if_pos c3]
    have hlt := cu_lt c3 (by decide)
    cases sub with
    | none => exact ⟨(fun p e => by cases e; exact k2), (fun a' w' e => by cases e)⟩
    | some f =>
      obtain ⟨p1, p2⟩ := GP_must (T := T) (c := 93) (hs f rfl) (by decide) (sk T s a + 1) w (by omega)
      refine ⟨p1, fun a' w' e => ?_⟩
      obtain ⟨g1, l, g2, g3, g4⟩ := p2 a' w' e
      exact ⟨g1, l, g2, by omega, g4⟩
  · rw [if_neg c3]
    exact ⟨(fun p e => by cases e; exact k2), (fun a' w' e => by cases e)⟩
theorem GP_sum {sub : Option (Nat → List Int32 → RL)} {h : Nat} (hs : ∀ f, sub = some f → GP s h false f) (h1 : 2 ≤ h) : GP s (h + 2) false (sumP T s sub) :=
  GP_then (GP_then (GP_atom hs (by omega)) (by decide) (fun _ => rfl) (fun _ => rfl) (Nat.le_refl _) (by omega)) (by decide) (fun _ => rfl) (fun _ => rfl) (Nat.le_refl _) (by omega)
theorem GP_sumD : ∀ g : Nat, GP s (4 + 2 * g) false (sumD T s g)
  | 0 => GP_sum (h := 2) (fun f e => by cases e) (by omega)
  | g + 1 => (GP_sum (h := 4 + 2 * g) (fun f e => by cases e; exact GP_sumD g) (by omega)).mono (by omega)
end WU
