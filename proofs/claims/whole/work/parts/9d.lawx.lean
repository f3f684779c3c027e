section LX3
variable (T : Nat → Int32) (s : Nat)
def sbQ (a : Nat) (w : List Int32) : RL := thenR (mustP T s 63 a w) (fun a' w' => sumD T s 6 a' (w' ++ [-63]))
def tlQ (a : Nat) (w : List Int32) : RL := if isC (cu T s (sk T s a)) = true then thenR (cmpP T s 6 (sk T s a) w) (fun a w => thenR (andP T s (unitD T s 6) a w) (fun a w => thenR (orP T s (unitD T s 6) a w) (sbQ T s))) else .inr (sk T s a, w)
def clinQ (b : Nat) (w : List Int32) : RL := if cu T s (sk T s b) = 33 ∨ cu T s (sk T s b) = 40 then thenR (conP T s (unitD T s 6) (sk T s b) w) (sbQ T s) else thenR (sumD T s 6 (sk T s b) w) (tlQ T s)
def clauQ (a : Nat) (w : List Int32) : RL := thenR (mustP T s 121 a w) (fun a w => thenR (mustP T s 58 a w) (clinQ T s))
end LX3
def encQ (c t : List Int32) : List Int32 := c ++ ((if c = [] then [] else [-63]) ++ t)
def addC (w : List Int32) (r : Nat ⊕ (Nat × List Int32 × List Int32)) : RL := match r with
  | .inl p => .inl p
  | .inr q => .inr (q.1, w ++ encQ q.2.1 q.2.2)
section LX4
variable {T : Nat → Int32} {s : Nat}
theorem tst_add (r : RL) (w : List Int32) (hne : ∀ q, r = .inr q → q.2 ≠ []) : thenR (appR w r) (sbQ T s) = addC w (tstP T s r) := by
  cases r with
  | inl p => rfl
  | inr q =>
    have hq := hne q rfl
    show thenR (mustP T s 63 q.1 (w ++ q.2)) (fun a' w' => sumD T s 6 a' (w' ++ [-63])) = addC w (match thenR (mustP T s 63 q.1 []) (sumD T s 6) with | .inl p => .inl p | .inr v => .inr (v.1, q.2, v.2))
    unfold mustP
    by_cases h : cu T s (sk T s q.1) = 63
    · rw [if_pos h, if_pos h]
      show sumD T s 6 (sk T s q.1 + 1) ((w ++ q.2) ++ [-63]) = addC w (match sumD T s 6 (sk T s q.1 + 1) [] with | .inl p => .inl p | .inr v => .inr (v.1, q.2, v.2))
      rw [(AP_sumD 6).nil]
      cases sumD T s 6 (sk T s q.1 + 1) [] with
      | inl p => rfl
      | inr v =>
        show (Sum.inr (v.1, w ++ q.2 ++ [-63] ++ v.2) : RL) = .inr (v.1, w ++ encQ q.2 v.2)
        unfold encQ
        rw [if_neg hq, List.append_assoc, List.append_assoc]
    · rw [if_neg h, if_neg h]
      rfl
theorem WTk.ne {h : Nat} {k : Bool} {l : List Int32} (w : WTk h k l) (hh : h ≤ 60) : l ≠ [] := by
  intro e
  have := w [] (by rw [List.length_nil]; omega)
  rw [e] at this
  cases this
theorem clin_add {b : Nat} (hb : b ≤ s) (w : List Int32) : clinQ T s b w = addC w (clinP T s b) := by
  have k2 := sk_le (T := T) hb
  unfold clinQ clinP
  by_cases h : cu T s (sk T s b) = 33 ∨ cu T s (sk T s b) = 40
  · rw [if_pos h, if_pos h, (AP_con (AP_unitD 6)).nil]
    refine tst_add _ w (fun q e => ?_)
    obtain ⟨_, l, g2, _, g4⟩ := (GP_con (T := T) (s := s) (GP_unitD 6) (by omega) (sk T s b) [] k2).2 q.1 q.2 e
    rw [g2]
    exact g4.ne (by omega)
  · rw [if_neg h, if_neg h, (AP_sumD 6).nil]
    cases hr : sumD T s 6 (sk T s b) [] with
    | inl p => rfl
    | inr v =>
      show tlQ T s v.1 (w ++ v.2) = addC w (if isC (cu T s (sk T s v.1)) = true then tstP T s (thenR (thenR (cmpP T s 6 (sk T s v.1) v.2) (andP T s (unitD T s 6))) (orP T s (unitD T s 6))) else .inr (sk T s v.1, [], v.2))
      unfold tlQ
      by_cases h2 : isC (cu T s (sk T s v.1)) = true
      · rw [if_pos h2, if_pos h2]
        have e1 : thenR (cmpP T s 6 (sk T s v.1) (w ++ v.2)) (fun a w => thenR (andP T s (unitD T s 6) a w) (fun a w => thenR (orP T s (unitD T s 6) a w) (sbQ T s))) = thenR (thenR (thenR (cmpP T s 6 (sk T s v.1) (w ++ v.2)) (andP T s (unitD T s 6))) (orP T s (unitD T s 6))) (sbQ T s) := by
          rw [thenR_assoc, thenR_assoc]
        rw [e1]
        have A1 : AP (fun a w => thenR (thenR (cmpP T s 6 a w) (andP T s (unitD T s 6))) (orP T s (unitD T s 6))) := AP_then (P := fun a w => thenR (cmpP T s 6 a w) (andP T s (unitD T s 6))) (AP_then (AP_cmp 6) (AP_loop (AP_unitD 6) 38 38 240)) (AP_loop (AP_tru (AP_unitD 6)) 124 124 240)
        have e2 := A1 (sk T s v.1) w v.2
        dsimp only at e2
        rw [e2]
        refine tst_add _ w (fun q e => ?_)
        intro hq
        cases hc : cmpP T s 6 (sk T s v.1) v.2 with
        | inl p => rw [hc] at e; cases e
        | inr y =>
          rw [hc] at e
          have hy : y.2 ≠ [] := by
            unfold cmpP at hc
            split at hc
            · cases hs : sumD T s 6 (sk T s (sk T s v.1) + 1) v.2 with
              | inl p => rw [hs] at hc; cases hc
              | inr z => rw [hs] at hc; cases hc; exact fun q => by simp at q
            · cases hc
          have e3 : thenR (thenR (.inr y) (andP T s (unitD T s 6))) (orP T s (unitD T s 6)) = appR y.2 (thenR (andP T s (unitD T s 6) y.1 []) (orP T s (unitD T s 6))) := by
            have A2 : AP (fun a w => thenR (andP T s (unitD T s 6) a w) (orP T s (unitD T s 6))) := AP_then (AP_loop (AP_unitD 6) 38 38 240) (AP_loop (AP_tru (AP_unitD 6)) 124 124 240)
            exact A2.nil y.1 y.2
          rw [e3] at e
          cases hz : thenR (andP T s (unitD T s 6) y.1 []) (orP T s (unitD T s 6)) with
          | inl p => rw [hz] at e; cases e
          | inr z =>
            rw [hz] at e
            cases e
            exact hy (List.append_eq_nil_iff.mp hq).1
      · rw [if_neg h2, if_neg h2]
        show (Sum.inr (sk T s v.1, w ++ v.2) : RL) = .inr (sk T s v.1, w ++ encQ [] v.2)
        unfold encQ
        rw [if_pos rfl]
        rfl
theorem clau_add {a : Nat} (ha : a ≤ s) (w : List Int32) : clauQ T s a w = addC w (clauP T s a) := by
  have k1 := sk_ge T s a
  have k2 := sk_le (T := T) ha
  unfold clauQ clauP
  by_cases h1 : cu T s (sk T s a) = 121
  · have l1 := cu_lt h1 (by decide)
    have e1 : ∀ w, mustP T s 121 a w = .inr (sk T s a + 1, w) := fun w => by unfold mustP; rw [if_pos h1]
    rw [e1, e1]
    show thenR (mustP T s 58 (sk T s a + 1) w) (clinQ T s) = addC w (match mustP T s 58 (sk T s a + 1) [] with | .inl p => .inl p | .inr v => clinP T s v.1)
    by_cases h2 : cu T s (sk T s (sk T s a + 1)) = 58
    · have l2 := cu_lt h2 (by decide)
      have e2 : ∀ w, mustP T s 58 (sk T s a + 1) w = .inr (sk T s (sk T s a + 1) + 1, w) := fun w => by unfold mustP; rw [if_pos h2]
      rw [e2, e2]
      exact clin_add (by omega) w
    · have e2 : ∀ w, mustP T s 58 (sk T s a + 1) w = .inl (sk T s (sk T s a + 1)) := fun w => by unfold mustP; rw [if_neg h2]
      rw [e2, e2]
      rfl
  · have e1 : ∀ w, mustP T s 121 a w = .inl (sk T s a) := fun w => by unfold mustP; rw [if_neg h1]
    rw [e1, e1]
    rfl
theorem encL_add : ∀ (L : List (List Int32 × List Int32)) (c t : List Int32), encL (L ++ [(c, t)]) = encL L ++ encQ c t ++ [-59]
  | [], c, t => by
    show c ++ ((if c = [] then [] else [-63]) ++ (t ++ [-59])) = [] ++ (c ++ ((if c = [] then [] else [-63]) ++ t)) ++ [-59]
    simp only [List.append_assoc, List.nil_append]
  | q :: L, c, t => by
    show q.1 ++ ((if q.1 = [] then [] else [-63]) ++ (q.2 ++ (-59 :: encL (L ++ [(c, t)])))) = q.1 ++ ((if q.1 = [] then [] else [-63]) ++ (q.2 ++ (-59 :: encL L))) ++ encQ c t ++ [-59]
    rw [encL_add L c t]
    simp only [List.append_assoc, List.cons_append]
end LX4
