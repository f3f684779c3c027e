/-- the class's reader e does what P says -/
def SPX (T : Nat → Int32) (s : Nat) (e : mmM → Option mmR) (P : Nat → List Int32 → RL) : Prop := ∀ M a w, XTp M T s → mm_I M 17 2 = nI a → a ≤ s → WX M w → w.length ≤ a → (∀ p, P a w = .inl p → ∃ M1, e M = some (some (.int 0), M1) ∧ LXf M M1 ∧ mm_I M1 17 2 = nI p) ∧ ∀ a' w', P a w = .inr (a', w') → ∃ M1, e M = some (some (.int 1), M1) ∧ LXf M M1 ∧ mm_I M1 17 2 = nI a' ∧ WX M1 w'
section LB
variable {n : Nat} {xs : Nat → Int32} {N : Nat} {T : Nat → Int32} {s : Nat}
theorem E_ltX (d : Nat) (M : mmM) (c : Int32) : mm_E n xs N (d + 1) 32 [.int c] M = some (some (.int (mb (ltr (-c)).isSome)), M) := by
  rw [u_X3_isLetter]
  unfold ltr
  by_cases a1 : c = 119
  · subst a1; rfl
  rw [if_neg a1, if_neg (show ¬ -c = -119 from fun w => a1 (Int32.neg_inj.mp w))]
  by_cases a2 : c = 115
  · subst a2; rfl
  rw [if_neg a2, if_neg (show ¬ -c = -115 from fun w => a2 (Int32.neg_inj.mp w))]
  by_cases a3 : c = 110
  · subst a3; rfl
  rw [if_neg a3, if_neg (show ¬ -c = -110 from fun w => a3 (Int32.neg_inj.mp w))]
  by_cases a4 : c = 121
  · subst a4; rfl
  rw [if_neg a4, if_neg (show ¬ -c = -121 from fun w => a4 (Int32.neg_inj.mp w))]
  by_cases a5 : c = 97
  · subst a5; rfl
  rw [if_neg a5, if_neg (show ¬ -c = -97 from fun w => a5 (Int32.neg_inj.mp w))]
  by_cases a6 : c = 99
  · subst a6; rfl
  rw [if_neg a6, if_neg (show ¬ -c = -99 from fun w => a6 (Int32.neg_inj.mp w))]
  rfl
end LB
