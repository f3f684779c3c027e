section LG2
variable {n : Nat} {xs : Nat → Int32} {N : Nat} {T : Nat → Int32} {s : Nat}
theorem E_sumS (hN : 1000 ≤ N) (d D : Nat) (hD : D ≤ 6) {sub : Option (Nat → List Int32 → RL)} (h6 : sub = none → D = 6) (hs : ∀ f, sub = some f → D < 6 ∧ GP s 40 false f ∧ SPX T s (fun M => mm_E n xs N (d + 3) 29 [.ref 23, .int (nI (D + 1))] M) f) : SPX T s (fun M => mm_E n xs N (d + 6) 29 [.ref 23, .int (nI D)] M) (sumP T s sub) := by
  have g1 : GP s 40 false (atomP T s sub) := GP_atom (fun f e => (hs f e).2.1) (by omega)
  have g2 : GP s 41 false (termP T s sub) := GP_then g1 (by decide) (fun _ => rfl) (fun _ => rfl) (Nat.le_refl _) (by omega)
  exact E_sumX hN (d + 1) g2 (E_termX hN d g1 (E_atomX hN d D hD h6 hs))
theorem E_sumDX (hN : 1000 ≤ N) (d : Nat) : ∀ (g K : Nat), g ≤ 6 → K = d + 3 * g + 6 → SPX T s (fun M => mm_E n xs N K 29 [.ref 23, .int (nI (6 - g))] M) (sumD T s g)
  | 0, K, hg, hK => by
    subst hK
    exact E_sumS hN d 6 (by omega) (fun _ => rfl) (fun f e => by cases e)
  | g + 1, K, hg, hK => by
    obtain ⟨e, rfl⟩ : ∃ e, K = e + 6 := ⟨d + 3 * (g + 1), hK⟩
    have ih := E_sumDX hN d g (e + 3) (by omega) (by omega)
    refine E_sumS hN e (6 - (g + 1)) (by omega) (fun q => by cases q) (fun f q => ?_)
    cases q
    refine ⟨by omega, (GP_sumD g).mono (by omega), ?_⟩
    rw [show 6 - (g + 1) + 1 = 6 - g by omega]
    exact ih
end LG2
