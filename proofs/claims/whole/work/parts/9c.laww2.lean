/-! what the class writes of a clause, behind what stands there -/
def appR (w0 : List Int32) (r : RL) : RL := match r with
  | .inl p => .inl p
  | .inr q => .inr (q.1, w0 ++ q.2)
def AP (P : Nat → List Int32 → RL) : Prop := ∀ a w0 w, P a (w0 ++ w) = appR w0 (P a w)
def LN (s : Nat) (P : Nat → List Int32 → RL) : Prop := ∀ a w a' w', a ≤ s → P a w = .inr (a', w') → a' ≤ s ∧ (a ≤ a' ∧ a + w'.length ≤ a' + w.length)
section LW2
variable {T : Nat → Int32} {s : Nat}
theorem thenR_assoc (r : RL) (f g : Nat → List Int32 → RL) : thenR (thenR r f) g = thenR r (fun a w => thenR (f a w) g) := by
  cases r with
  | inl p => rfl
  | inr v => rfl
theorem AP.nil {P : Nat → List Int32 → RL} (h : AP P) (a : Nat) (w : List Int32) : P a w = appR w (P a []) := by
  have := h a w []
  rwa [List.append_nil] at this
theorem AP_then {P Q : Nat → List Int32 → RL} (hP : AP P) (hQ : AP Q) : AP (fun a w => thenR (P a w) Q) := by
  intro a w0 w
  dsimp only
  rw [hP]
  cases P a w with
  | inl p => rfl
  | inr v => exact hQ v.1 w0 v.2
theorem AP_must (c : Int32) : AP (mustP T s c) := by
  intro a w0 w
  unfold mustP
  split
  · rfl
  · rfl
theorem AP_loop {P : Nat → List Int32 → RL} (hP : AP P) (c1 c2 : Int32) : ∀ f, AP (loopP T s P c1 c2 f)
  | 0 => fun a w0 w => rfl
  | f + 1 => fun a w0 w => by
    unfold loopP
    split
    · rw [hP]
      cases P (sk T s a + 1) w with
      | inl p => rfl
      | inr v =>
        show loopP T s P c1 c2 f v.1 ((w0 ++ v.2) ++ [-(cu T s (sk T s a))]) = appR w0 (loopP T s P c1 c2 f v.1 (v.2 ++ [-(cu T s (sk T s a))]))
        rw [List.append_assoc]
        exact AP_loop hP c1 c2 f v.1 w0 _
    · rfl
theorem AP_atom {sub : Option (Nat → List Int32 → RL)} (hs : ∀ f, sub = some f → AP f) : AP (atomP T s sub) := by
  intro a w0 w
  unfold atomP
  by_cases h1 : dg (cu T s (sk T s a)) = true
  · rw [if_pos h1, if_pos h1]
    by_cases h2 : dg (cu T s (nmF T s 4 (sk T s a) 0).1) = true
    · rw [if_pos h2, if_pos h2]; rfl
    · rw [if_neg h2, if_neg h2, List.append_assoc]; rfl
  rw [if_neg h1, if_neg h1]
  by_cases h2 : (ltr (-(cu T s (sk T s a)))).isSome = true
  · rw [if_pos h2, if_pos h2, List.append_assoc]; rfl
  rw [if_neg h2, if_neg h2]
  by_cases h3 : cu T s (sk T s a) = 91
  · rw [if_pos h3, if_pos h3]
    cases sub with
    | none => rfl
    | some f => exact AP_then (hs f rfl) (AP_must 93) (sk T s a + 1) w0 w
  · rw [if_neg h3, if_neg h3]; rfl
theorem AP_sum {sub : Option (Nat → List Int32 → RL)} (hs : ∀ f, sub = some f → AP f) : AP (sumP T s sub) := by
  have h1 : AP (atomP T s sub) := AP_atom hs
  have h2 : AP (termP T s sub) := AP_then h1 (AP_loop h1 42 47 240)
  exact AP_then h2 (AP_loop h2 43 45 240)
theorem AP_sumD : ∀ g, AP (sumD T s g)
  | 0 => AP_sum (fun f e => by cases e)
  | g + 1 => AP_sum (fun f e => by cases e; exact AP_sumD g)
theorem AP_put (c : Nat → List Int32) : AP (fun a' w' => .inr (a', w' ++ c a')) := by
  intro a w0 w
  dsimp only
  rw [List.append_assoc]
  rfl
theorem AP_cmp (g : Nat) : AP (cmpP T s g) := by
  intro a w0 w
  unfold cmpP
  split
  · exact AP_then (AP_sumD g) (AP_put (fun _ => [-(cu T s (sk T s a))])) (sk T s a + 1) w0 w
  · rfl
theorem AP_tru {u : Nat → List Int32 → RL} (h : AP u) : AP (truP T s u) := AP_then h (AP_loop h 38 38 240)
theorem AP_con {u : Nat → List Int32 → RL} (h : AP u) : AP (conP T s u) := AP_then (AP_tru h) (AP_loop (AP_tru h) 124 124 240)
theorem AP_unit {sub : Option (Nat → List Int32 → RL)} (hs : ∀ f, sub = some f → AP f) (g : Nat) : AP (unitP T s sub g) := by
  intro a w0 w
  unfold unitP
  by_cases h1 : cu T s (sk T s a) = 33
  · rw [if_pos h1, if_pos h1]
    cases sub with
    | none => rfl
    | some u => exact AP_then (hs u rfl) (AP_put (fun _ => [-33])) (sk T s a + 1) w0 w
  rw [if_neg h1, if_neg h1]
  by_cases h2 : cu T s (sk T s a) = 40
  · rw [if_pos h2, if_pos h2]
    cases sub with
    | none => rfl
    | some u => exact AP_then (AP_con (hs u rfl)) (AP_must 41) (sk T s a + 1) w0 w
  rw [if_neg h2, if_neg h2]
  exact AP_then (AP_sumD g) (AP_cmp g) (sk T s a) w0 w
theorem AP_unitD : ∀ g, AP (unitD T s g)
  | 0 => AP_unit (fun f e => by cases e) 0
  | g + 1 => AP_unit (fun f e => by cases e; exact AP_unitD g) (g + 1)
theorem GP.ln {h : Nat} {k : Bool} {P : Nat → List Int32 → RL} (g : GP s h k P) : LN s P := by
  intro a w a' w' ha e
  obtain ⟨hb, l, g2, g3, _⟩ := (g a w ha).2 a' w' e
  exact ⟨hb, by rw [g2, List.length_append]; omega⟩
theorem LN_must (c : Int32) (hc : c ≠ -1) : LN s (mustP T s c) := by
  intro a w a' w' ha e
  have k1 := sk_ge T s a
  unfold mustP at e
  by_cases h : cu T s (sk T s a) = c
  · have := cu_lt h hc
    rw [if_pos h] at e
    cases e
    exact ⟨by omega, by omega⟩
  · rw [if_neg h] at e
    cases e
theorem LN_cmp (g : Nat) : LN s (cmpP T s g) := by
  intro a w a' w' ha e
  have k1 := sk_ge T s a
  unfold cmpP at e
  by_cases h : isC (cu T s (sk T s a)) = true
  · have h1 := cu_lt (T := T) (s := s) (a := sk T s a) rfl (isC_t h).1
    rw [if_pos h] at e
    cases hr : sumD T s g (sk T s a + 1) w with
    | inl p => rw [hr] at e; cases e
    | inr v =>
      obtain ⟨b, w1⟩ := v
      obtain ⟨l1, l2⟩ := (GP_sumD (T := T) (s := s) g).ln (sk T s a + 1) w b w1 (by omega) hr
      rw [hr] at e
      cases e
      exact ⟨l1, by rw [List.length_append, List.length_cons, List.length_nil]; dsimp only; omega⟩
  · rw [if_neg h] at e
    cases e
theorem LN_loop {P : Nat → List Int32 → RL} (hP : LN s P) {c1 c2 : Int32} (hc : c1 ≠ -1 ∧ c2 ≠ -1) : ∀ f, LN s (loopP T s P c1 c2 f)
  | 0 => fun a w a' w' ha e => by cases e; exact ⟨ha, Nat.le_refl _, Nat.le_refl _⟩
  | f + 1 => fun a w a' w' ha e => by
    have k1 := sk_ge T s a
    have k2 := sk_le (T := T) ha
    unfold loopP at e
    by_cases h : cu T s (sk T s a) = c1 ∨ cu T s (sk T s a) = c2
    · have hlt : sk T s a < s := h.elim (fun q => cu_lt q hc.1) (fun q => cu_lt q hc.2)
      rw [if_pos h] at e
      cases hr : P (sk T s a + 1) w with
      | inl p => rw [hr] at e; cases e
      | inr v =>
        obtain ⟨b, w1⟩ := v
        obtain ⟨l1, l2⟩ := hP (sk T s a + 1) w b w1 (by omega) hr
        rw [hr] at e
        obtain ⟨m1, m2⟩ := LN_loop hP hc f b (w1 ++ [-(cu T s (sk T s a))]) a' w' l1 e
        rw [List.length_append, List.length_cons, List.length_nil] at m2
        exact ⟨m1, by omega⟩
    · rw [if_neg h] at e
      cases e
      exact ⟨k2, by omega⟩
end LW2
