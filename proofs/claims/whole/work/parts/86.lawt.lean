section WT
variable {T : Nat → Int32} {s : Nat}
/-- what a reader of one thing of kind k gives: no more signs than bytes, of that kind -/
def GP (s h : Nat) (k : Bool) (P : Nat → List Int32 → RL) : Prop := ∀ a w, a ≤ s → (∀ p, P a w = .inl p → p ≤ s) ∧ ∀ a' w', P a w = .inr (a', w') → a' ≤ s ∧ ∃ l, w' = w ++ l ∧ a + l.length ≤ a' ∧ WTk h k l
theorem GP.mono {h h' : Nat} {k : Bool} {P : Nat → List Int32 → RL} (w : GP s h k P) (g : h ≤ h') : GP s h' k P := fun a w' ha => ⟨(w a w' ha).1, fun a' w'' e => by
  obtain ⟨h1, l, h2, h3, h4⟩ := (w a w' ha).2 a' w'' e
  exact ⟨h1, l, h2, h3, h4.mono g⟩⟩
theorem GP_loop {P : Nat → List Int32 → RL} {c1 c2 : Int32} {h H : Nat} {k : Bool} (hP : GP s h k P) (hc : c1 ≠ -1 ∧ c2 ≠ -1) (t1 : ∀ r, tyS (-c1) (k :: k :: r) = some (k :: r)) (t2 : ∀ r, tyS (-c2) (k :: k :: r) = some (k :: r)) (hH : h + 1 ≤ H) (h3 : 3 ≤ H) : ∀ (f a0 a : Nat) (w0 l0 : List Int32), a ≤ s → a0 + l0.length ≤ a → WTk H k l0 → (∀ p, loopP T s P c1 c2 f a (w0 ++ l0) = .inl p → p ≤ s) ∧ ∀ a' w', loopP T s P c1 c2 f a (w0 ++ l0) = .inr (a', w') → a' ≤ s ∧ ∃ l, w' = w0 ++ l ∧ a0 + l.length ≤ a' ∧ WTk H k l
  | 0, a0, a, w0, l0, ha, h0, hw => ⟨(fun p e => by cases e), fun a' w' e => by cases e; exact ⟨ha, l0, rfl, h0, hw⟩⟩
  | f + 1, a0, a, w0, l0, ha, h0, hw => by
    have k1 := sk_ge T s a
    have k2 := sk_le (T := T) ha
    unfold loopP
    by_cases hc0 : cu T s (sk T s a) = c1 ∨ cu T s (sk T s a) = c2
    · rw [if_pos hc0]
      have hlt : sk T s a < s := by
        rcases hc0 with q | q
        · exact cu_lt q hc.1
        · exact cu_lt q hc.2
      have ht : ∀ r, tyS (-(cu T s (sk T s a))) (k :: k :: r) = some (k :: r) := by
        rcases hc0 with q | q
        · rw [q]; exact t1
        · rw [q]; exact t2
      obtain ⟨p1, p2⟩ := hP (sk T s a + 1) (w0 ++ l0) (by omega)
      cases hr : P (sk T s a + 1) (w0 ++ l0) with
      | inl p => exact ⟨fun q e => by cases e; exact p1 p hr, fun a' w' e => by cases e⟩
      | inr q =>
        obtain ⟨b, w1⟩ := q
        obtain ⟨g1, l, g2, g3, g4⟩ := p2 b w1 hr
        have e : w1 ++ [-(cu T s (sk T s a))] = w0 ++ (l0 ++ (l ++ [-(cu T s (sk T s a))])) := by rw [g2, List.append_assoc, List.append_assoc]
        show (∀ p, loopP T s P c1 c2 f b (w1 ++ [-(cu T s (sk T s a))]) = .inl p → p ≤ s) ∧ ∀ a' w', loopP T s P c1 c2 f b (w1 ++ [-(cu T s (sk T s a))]) = .inr (a', w') → _
        rw [e]
        exact GP_loop hP hc t1 t2 hH h3 f a0 b w0 _ g1 (by rw [List.length_append, List.length_append, List.length_cons, List.length_nil]; omega) (WTk.bin hw g4 ht (Nat.le_refl _) hH h3)
    · rw [if_neg hc0]
      exact ⟨(fun p e => by cases e), fun a' w' e => by cases e; exact ⟨k2, l0, rfl, by omega, hw⟩⟩
theorem GP_then {P : Nat → List Int32 → RL} {c1 c2 : Int32} {h H f : Nat} {k : Bool} (hP : GP s h k P) (hc : c1 ≠ -1 ∧ c2 ≠ -1) (t1 : ∀ r, tyS (-c1) (k :: k :: r) = some (k :: r)) (t2 : ∀ r, tyS (-c2) (k :: k :: r) = some (k :: r)) (hH : h + 1 ≤ H) (h3 : 3 ≤ H) : GP s H k (fun a w => thenR (P a w) (loopP T s P c1 c2 f)) := by
  intro a w ha
  obtain ⟨p1, p2⟩ := hP a w ha
  cases hr : P a w with
  | inl p => exact ⟨fun q e => by dsimp only at e; rw [hr] at e; cases e; exact p1 p hr, fun a' w' e => by dsimp only at e; rw [hr] at e; cases e⟩
  | inr q =>
    obtain ⟨b, w1⟩ := q
    obtain ⟨g1, l, g2, g3, g4⟩ := p2 b w1 hr
    subst g2
    dsimp only
    rw [hr]
    exact GP_loop hP hc t1 t2 hH h3 f a b w l g1 g3 (g4.mono (by omega))
end WT
