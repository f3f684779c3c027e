theorem TI_ini {n : Nat} {xs : Nat → Int32} {N : Nat} {M : mmM} (hN : 10000 ≤ N) (hn : mm_n M = 87) (hz : mm_z M ≤ 100000) (zz : ∀ a k, ini_e a k = false → mm_I M a k = 0) (h25 : mm_I M 25 2 = -1) (h29 : mm_I M 60 29 = -1) (h18 : mm_I M 16 18 = 2) (h30 : mm_I M 60 30 = 2) (h26 : ∀ j, j < 4 → mm_p (mm_Y n xs) M 26 j = some (27 + j)) (h39 : ∀ i, mm_p (mm_Y n xs) M 39 i = none) : TI n xs N M := by
  have z0 : (0 : Int32).toInt = 0 := by decide
  have row : ∀ a, a ≠ 25 → a ≠ 60 → a ≠ 16 → ∀ k, mm_I M a k = 0 := fun a a1 a2 a3 k => zz a k (by unfold ini_e; simp [a1, a2, a3])
  have r60 : ∀ k, k ≠ 29 → k ≠ 30 → mm_I M 60 k = 0 := fun k k1 k2 => zz 60 k (by unfold ini_e; simp [k1, k2])
  have r33 := row 33 (by decide) (by decide) (by decide)
  have r34 := row 34 (by decide) (by decide) (by decide)
  have r35 := row 35 (by decide) (by decide) (by decide)
  have r36 := row 36 (by decide) (by decide) (by decide)
  have r74 := row 74 (by decide) (by decide) (by decide)
  have r77 := row 77 (by decide) (by decide) (by decide)
  have b0 : ∀ (hi : Int), 0 ≤ hi → bd 0 hi (0 : Int32) := fun hi h => ⟨by rw [z0]; omega, by rw [z0]; exact h⟩
  have hL : LW n xs M (fun _ => []) 0 := ⟨by omega, by omega, by rw [zz 25 1 rfl]; exact nI_0.symm, by rw [r60 13 (by decide) (by decide)]; exact nI_0.symm, h29.trans h25.symm, Or.inl h25, fun j hj => by omega, fun j _ hj => h26 j hj⟩
  have h33 : bd 0 9 (mm_I M 33 0) ∧ bd 0 1 (mm_I M 33 2) := ⟨by rw [r33]; exact b0 9 (by omega), by rw [r33]; exact b0 1 (by omega)⟩
  have h74 : ∀ k, k < 4 → mm_I M 74 k = mm_I M 33 k := fun k hk => by rw [r74, r33]
  obtain ⟨gx, gm⟩ := hL.G hN h33 h74
  refine ⟨fun _ => [], 0, 0, 0, 0, ⟨0, 0, 0, 0, fun _ _ => 0, fun _ _ => 0, fun _ => 0, false, ⟨?_, ?_, gx, gm, ?_, by omega⟩, ?_, ?_, ?_, ?_, ?_, ?_, ⟨by decide, ?_⟩, ?_, ⟨?_, ?_, ?_⟩, ?_, ⟨?_, ?_⟩, ?_, ?_, ?_, hN, ?_, ?_⟩, ⟨by omega, ?_, ?_, fun i hi => by omega⟩, hL⟩
  · refine ⟨by omega, by omega, by omega, ?_, ?_, ?_, ?_, ?_, h74, fun c w hc hw => by omega, fun c w hc hw => by omega, h33.1, h33.2, fun c hc => by omega, fun c hc => by omega⟩
    · rw [zz 16 16 rfl]; rfl
    · rw [r34]; exact nI_0.symm
    · rw [r34]; exact nI_0.symm
    · rw [r60 25 (by decide) (by decide)]; exact nI_0.symm
    · rw [r60 26 (by decide) (by decide)]; exact nI_0.symm
  · refine ⟨by rw [r77, r35], by rw [r77, r35], by rw [r77, r35], by rw [r77, r35], by rw [r77, r35], by rw [r77, r35], by rw [r77, r35], by rw [r77, r35], by rw [r77, r35], fun c hc => by omega, ?_, ?_, ?_, ?_, ?_, ?_, ?_, ?_, fun c hc => by omega, fun c hc => by omega⟩
    · rw [r35]; exact b0 _ (by omega)
    · rw [r35]; exact b0 _ (by omega)
    · rw [r35, z0]; exact ⟨by omega, by decide⟩
    · rw [r35]; exact b0 _ (by omega)
    · rw [r35]; exact b0 _ (by omega)
    · rw [r35]; exact b0 _ (by omega)
    · rw [r35]; exact b0 _ (by omega)
    · rw [r35]; exact b0 _ (by omega)
  · intro j b hj hb
    rw [h26 j hj] at hb
    cases hb
    have hd : ∀ j, j < 4 → scr (27 + j) = false := by decide
    exact hd j hj
  · exact ⟨by omega, by rw [row 47 (by decide) (by decide) (by decide)]; exact nI_0.symm, by rw [r60 43 (by decide) (by decide)]; exact nI_0.symm, fun i hi => by omega⟩
  · exact ⟨by rw [row 38 (by decide) (by decide) (by decide)]; exact nI_0.symm, by omega, by rw [row 38 (by decide) (by decide) (by decide)]; exact nI_0.symm, by omega, by omega, by omega, by omega, Or.inl (by omega), fun i _ _ => h39 i, fun i hi => by omega, fun i j oi oj hi => by omega⟩
  · exact fun k hk => by omega
  · exact ⟨by rw [r60 32 (by decide) (by decide)]; exact nI_0.symm, fun k hk => by omega⟩
  · refine ⟨?_, fun i w hi => by have hi' : i < min 60 0 := hi; omega⟩
    rw [r77]; exact nI_0.symm
  · rw [r35]; exact nI_0.symm
  · unfold TS
    have : nowX M 1 = 0 := by show bow _ _ _ 1 = 0; rw [bow_b (by omega), r35]
    rw [this, z0]; rfl
  · exact fun j hj => by omega
  · rw [zz 16 17 rfl]; rfl
  · rw [r60 45 (by decide) (by decide)]; rfl
  · exact fun w => by cases w
  · intro i _; rw [row 57 (by decide) (by decide) (by decide), row 78 (by decide) (by decide) (by decide)]
  · rw [h18, h30]
  · rw [h30]; exact ⟨by decide, by decide⟩
  · exact row 54 (by decide) (by decide) (by decide) 0
  · exact row 55 (by decide) (by decide) (by decide) 0
  · intro j b hj hb
    rw [h26 j hj] at hb
    cases hb
    have hd : ∀ j, j < 4 → atc (27 + j) = false := by decide
    exact ⟨by omega, fun _ => hd j hj, fun i o hi => by omega⟩
  · rw [hn]; omega
  · omega
  · rw [row 17 (by decide) (by decide) (by decide)]; exact nI_0.symm
  · rw [r60 2 (by decide) (by decide)]; exact nI_0.symm
theorem TI_M1 {n : Nat} {xs : Nat → Int32} {N : Nat} (hN : 10000 ≤ N) : TI n xs N mm_M1 := TI_ini hN ini_n (by show mm_M1.2.2.1 ≤ 100000; rw [ini_z]; omega) ini_I ini_v.1 ini_v.2.1 ini_v.2.2.1 ini_v.2.2.2 ini_26 (fun i => by rw [ini_fx (by decide)]; exact ini_39 i)
