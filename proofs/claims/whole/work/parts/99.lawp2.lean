section LP2
variable {n : Nat} {xs : Nat → Int32} {N : Nat} {T : Nat → Int32} {s : Nat}
theorem E_unitsX (hN : 1000 ≤ N) (d : Nat) {y1 : Int32} {P : Nat → List Int32 → RL} {h : Nat} (hG : GP s h true P) (hA : SPX T s (fun M => mm_E n xs N (d + 4) 26 [.ref 23, .int y1] M) P) : SPX T s (fun M => mm_E n xs N (d + 5) 25 [.ref 23, .int y1] M) (andP T s P) := by
  intro M a w hT ha has hw hwl
  have := L_unitsX (n := n) (xs := xs) (N := N) hN d hG hA 240 0 N (by omega) (by omega) M a w hT ha has hw hwl
  dsimp only at this ⊢
  rw [u_X3_areUnitsNext]
  rw [nI_0] at this
  exact this
theorem E_truthsX (hN : 1000 ≤ N) (d : Nat) {y1 : Int32} {P : Nat → List Int32 → RL} {h : Nat} (hG : GP s h true (truP T s P)) (hA : SPX T s (fun M => mm_E n xs N (d + 4) 24 [.ref 23, .int y1] M) (truP T s P)) : SPX T s (fun M => mm_E n xs N (d + 5) 23 [.ref 23, .int y1] M) (orP T s P) := by
  intro M a w hT ha has hw hwl
  have := L_truthsX (n := n) (xs := xs) (N := N) hN d hG hA 240 0 N (by omega) (by omega) M a w hT ha has hw hwl
  dsimp only at this ⊢
  rw [u_X3_areTruthsNext]
  rw [nI_0] at this
  exact this
end LP2
