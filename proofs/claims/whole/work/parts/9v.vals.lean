/-! what a duchy's text gives is within its bounds -/
def VK (kd k : Nat) (x : Int32) : Prop := wi (mm_tb 3 (fiK kd + k)) x (mm_tb 4 (fiK kd + k)) = true
def VB (m : Nat → Nat) (v : Nat → Int32) : Prop := (∀ k, k < 4 → VK 0 k (v k)) ∧ ∀ kd, kd < 3 → m kd ≤ pl_m kd ∧ ∀ i k, i < m kd → k < pl_w kd → VK kd k (v (plK kd i + k))
section VV
variable {T : Nat → Int32} {s kd : Nat}
theorem plK_e (h : kd < 3) : (kd = 0 ∧ (∀ i, plK kd i = i * 4) ∧ pl_w kd = 4 ∧ pl_m kd = 1) ∨ (kd = 1 ∧ (∀ i, plK kd i = 4 + i * 2) ∧ pl_w kd = 2 ∧ pl_m kd = 4) ∨ (kd = 2 ∧ (∀ i, plK kd i = 12 + i * 4) ∧ pl_w kd = 4 ∧ pl_m kd = 7) := by
  rcases kd3 h with rfl | rfl | rfl
  · exact Or.inl ⟨rfl, fun i => by show 0 + i * 4 = _; omega, rfl, rfl⟩
  · exact Or.inr (Or.inl ⟨rfl, fun i => rfl, rfl, rfl⟩)
  · exact Or.inr (Or.inr ⟨rfl, fun i => rfl, rfl, rfl⟩)
theorem VK_us (h : kd < 3) {k : Nat} (hk : k < pl_w kd) : VK kd k (mm_tb 5 (fiK kd + k)) := by
  rcases kk h hk with ⟨rfl, rfl | rfl | rfl | rfl⟩ | ⟨rfl, rfl | rfl⟩ | ⟨rfl, rfl | rfl | rfl | rfl⟩ <;> (unfold VK; decide)
theorem vlP_k {k a : Nat} {r : Nat × Nat} (e : vlP T s kd k a = .inr r) : VK kd k (nI r.2) := by
  unfold vlP at e
  split at e
  · split at e
    · cases e
    · split at e
      · next h => cases e; exact h
      · cases e
  · cases e
theorem itL_b {g : Nat} : ∀ (f a fnd : Nat) (v : Nat → Int32) (q : Nat × (Nat → Int32)), itL T s kd g f a fnd v = .inr q → (∀ k, k < pl_w kd → VK kd k (v (g + k))) → ∀ k, k < pl_w kd → VK kd k (q.2 (g + k))
  | 0, a, fnd, v, q, h, hv => by cases h; exact hv
  | f + 1, a, fnd, v, q, h, hv => by
    rw [itL_s] at h
    cases e : itN kd (cu T s (sk T s a)) with
    | none => rw [e] at h; cases h; exact hv
    | some k =>
      rw [e] at h
      dsimp only at h
      split at h
      · cases h
      · cases e2 : vlP T s kd k (sk T s a + 1) with
        | inl p => rw [e2] at h; cases h
        | inr r =>
          rw [e2] at h
          refine itL_b f r.1 _ _ q h (fun k' hk' => ?_)
          show VK kd k' (if g + k' = g + k then nI r.2 else v (g + k'))
          by_cases w : k' = k
          · subst w; rw [if_pos rfl]; exact vlP_k e2
          · rw [if_neg (by omega)]; exact hv k' hk'
theorem clP_b {a : Nat} {m : Nat → Nat} {v : Nat → Int32} {q : Nat × (Nat → Nat) × (Nat → Int32)} (h : VB m v) (e : clP T s a m v = .inr q) : VB q.2.1 q.2.2 := by
  unfold clP at e
  cases e1 : kdN (cu T s (sk T s a)) with
  | none => rw [e1] at e; cases e
  | some kd =>
    have hkd := (kd_in e1).1
    rw [e1] at e
    dsimp only at e
    split at e
    · next hm =>
      cases e2 : itL T s kd (plK kd (m kd)) (s + 1) (sk T s a + 1) 0 (dfl kd (m kd) v) with
      | inl p => rw [e2] at e; cases e
      | inr r =>
        rw [e2] at e
        cases e
        have hin := itL_b _ _ _ _ r e2 (fun k hk => by
          show VK kd k (if plK kd (m kd) ≤ plK kd (m kd) + k ∧ plK kd (m kd) + k < plK kd (m kd) + pl_w kd then mm_tb 5 (fiK kd + (plK kd (m kd) + k - plK kd (m kd))) else _)
          rw [if_pos ⟨by omega, by omega⟩, show plK kd (m kd) + k - plK kd (m kd) = k by omega]
          exact VK_us hkd hk)
        have hout : ∀ x, (x < plK kd (m kd) ∨ plK kd (m kd) + pl_w kd ≤ x) → r.2 x = v x := fun x hx => by
          rw [itL_v _ _ _ _ r e2 x hx]
          show (if plK kd (m kd) ≤ x ∧ x < plK kd (m kd) + pl_w kd then _ else v x) = v x
          rw [if_neg (by omega)]
        have hE := plK_e hkd
        refine ⟨fun k hk => ?_, fun kd' hkd' => ⟨?_, fun i k hi hk => ?_⟩⟩
        · dsimp only
          rcases hE with ⟨g1, g2, g3, g4⟩ | ⟨g1, g2, g3, g4⟩ | ⟨g1, g2, g3, g4⟩
          · have h0 := hin k (by omega)
            rw [g2 (m kd), show m kd * 4 + k = k by omega, g1] at h0
            exact h0
          · rw [hout k (by rw [g2]; omega)]; exact h.1 k hk
          · rw [hout k (by rw [g2]; omega)]; exact h.1 k hk
        · show (if kd' = kd then m kd + 1 else m kd') ≤ pl_m kd'
          by_cases w : kd' = kd
          · rw [if_pos w, w]; exact hm
          · rw [if_neg w]; exact (h.2 kd' hkd').1
        · have hi' : i < (if kd' = kd then m kd + 1 else m kd') := hi
          dsimp only
          by_cases w : kd' = kd
          · subst w
            rw [if_pos rfl] at hi'
            by_cases w2 : i = m kd'
            · rw [w2]; exact hin k hk
            · rw [hout _ (by rcases hE with ⟨g1, g2, g3, g4⟩ | ⟨g1, g2, g3, g4⟩ | ⟨g1, g2, g3, g4⟩ <;> (rw [g2, g2]; omega))]
              exact (h.2 kd' hkd').2 i k (by omega) hk
          · rw [if_neg w] at hi'
            have hb := (h.2 kd' hkd').1
            rw [hout _ (by
              rcases hE with ⟨g1, g2, g3, g4⟩ | ⟨g1, g2, g3, g4⟩ | ⟨g1, g2, g3, g4⟩ <;> rcases plK_e hkd' with ⟨f1, f2, f3, f4⟩ | ⟨f1, f2, f3, f4⟩ | ⟨f1, f2, f3, f4⟩ <;> (rw [g2, f2]; omega))]
            exact (h.2 kd' hkd').2 i k hi' hk
    · cases e
theorem duP_b : ∀ (f a : Nat) (m : Nat → Nat) (v : Nat → Int32) (q : (Nat → Nat) × (Nat → Int32)), VB m v → duP T s f a m v = .inr q → VB q.1 q.2 ∧ 0 < q.1 1 ∧ 0 < q.1 2
  | 0, a, m, v, q, h, e => by cases e
  | f + 1, a, m, v, q, h, e => by
    unfold duP at e
    cases e1 : clP T s a m v with
    | inl p => rw [e1] at e; cases e
    | inr r =>
      rw [e1] at e
      have hr := clP_b h e1
      dsimp only at e
      split at e
      · exact duP_b f _ _ _ q hr e
      · split at e
        · next hh => cases e; exact ⟨hr, hh.2.1, hh.2.2⟩
        · cases e
theorem VB_0 (v : Nat → Int32) : VB (fun _ => 0) (dfl 0 0 v) := by
  refine ⟨fun k hk => ?_, fun kd hkd => ⟨Nat.zero_le _, fun i k hi => absurd hi (Nat.not_lt_zero i)⟩⟩
  show VK 0 k (if plK 0 0 ≤ k ∧ k < plK 0 0 + pl_w 0 then mm_tb 5 (fiK 0 + (k - plK 0 0)) else v k)
  have e : plK 0 0 = 0 := rfl
  have e2 : pl_w 0 = 4 := rfl
  rw [if_pos (by omega), show k - plK 0 0 = k by omega]
  exact VK_us (by omega) (by omega)
theorem VK_bd {k : Nat} {x lo hi : Int32} (h : VK kd k x) (h1 : mm_tb 3 (fiK kd + k) = lo) (h2 : mm_tb 4 (fiK kd + k) = hi) : bd lo.toInt hi.toInt x := by
  unfold VK wi at h
  rw [h1, h2] at h
  have := Bool.and_eq_true _ _ |>.mp h
  exact ⟨Int32.le_iff_toInt_le.mp (of_decide_eq_true this.1), Int32.le_iff_toInt_le.mp (of_decide_eq_true this.2)⟩
end VV
