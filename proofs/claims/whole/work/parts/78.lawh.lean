section LG
variable {n : Nat} {xs : Nat → Int32} {N : Nat} {M : mmM}
theorem E_rule0 (d : Nat) (M : mmM) : mm_E n xs N (d + 8) 94 [.ref 32, .int 0, .int 0, .int 0] M = some (some (.int (mm_I M 33 0)), M) := by
  have h := E_rule (n := n) (xs := xs) (N := N) (d + 5) M 0 (by omega)
  rw [nI_0] at h
  exact h
theorem E_rule2 (d : Nat) (M : mmM) : mm_E n xs N (d + 8) 94 [.ref 32, .int 0, .int 0, .int 2] M = some (some (.int (mm_I M 33 2)), M) := by
  have h := E_rule (n := n) (xs := xs) (N := N) (d + 5) M 2 (by omega)
  rw [show nI 2 = 2 from by decide] at h
  exact h
theorem E_chos (d : Nat) (M : mmM) : mm_E n xs N (d + 8) 36 [.ref 25] M = some (some (.int (mm_I M 25 2)), M) := u_X4_chosen n xs N (d + 7) M
theorem E_with8 (d : Nat) (M : mmM) (a x b : Int32) : mm_E n xs N (d + 8) 178 [.int a, .int x, .int b] M = some (some (.int (i_max a (i_min b x))), M) := E_within (d + 6) M a x b
theorem GX_nA (h2 : mm_I M 25 2 = -1) : GX n xs N (gvN (mm_I M 33 2)) M := by
  intro M0 hq d w s k y hw hs hk hy
  unfold stk gvN
  rw [u_X11_whisked]
  have h10 : ¬ (10 : Int32) = 0 := by decide
  generalize (10 : Int32) = c10 at h10 ⊢
  generalize (-9 : Int32) = c9
  generalize (-1 : Int32) = c1 at h2 ⊢
  rw [E_rule0, ra_I, Option.bind_some]
  dsimp only
  rw [E_rule2, ra_I, Option.bind_some]
  dsimp only
  rw [E_chos, ra_I, Option.bind_some]
  dsimp only
  rw [if_pos ((hq.2.1 2 (by omega)).trans h2), if_neg h10, hq.1]
  rw [E_with8, ra_I, Option.bind_some]
  dsimp only
  rw [E_with8, ra_I, Option.bind_some]
  dsimp only
  exact ⟨M0, rfl, SX.rf⟩
end LG
