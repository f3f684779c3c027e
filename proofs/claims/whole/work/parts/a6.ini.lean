/-! the objects are made -/
section IN
theorem ini_t1 (n : Nat) (xs : Nat → Int32) (N d : Nat) : ∃ M1, mm_ev (mm_Y0 n xs) mm_prog N (d + 4) 69 [.ref 17] (mm_new (mm_new mm_M0 (.inl 11) 19) (.inl 9) 3) = some (none, M1) ∧ M1.2.1 = 19 := ⟨_, rfl, rfl⟩
theorem ini_t2 (n : Nat) (xs : Nat → Int32) (N d : Nat) : ∃ M1, mm_ev (mm_Y0 n xs) mm_prog N (d + 4) 98 [.ref 16] (mm_new mm_M0 (.inl 11) 19) = some (none, M1) ∧ M1.2.1 = 60 := ⟨_, rfl, rfl⟩
end IN
