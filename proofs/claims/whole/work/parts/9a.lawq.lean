section LQ
variable {n : Nat} {xs : Nat → Int32} {N : Nat} {T : Nat → Int32} {s : Nat}
theorem GP.len {h : Nat} {k : Bool} {P : Nat → List Int32 → RL} (g : GP s h k P) {a a' : Nat} {w w' : List Int32} (ha : a ≤ s) (hw : w.length ≤ a) (e : P a w = .inr (a', w')) : a' ≤ s ∧ w'.length ≤ a' := by
  obtain ⟨hb, l, g2, g3, _⟩ := (g a w ha).2 a' w' e
  exact ⟨hb, by rw [g2, List.length_append]; omega⟩
theorem SPX_seq {e e1 e2 : mmM → Option mmR} {P Q : Nat → List Int32 → RL} (hl : ∀ a w a' w', a ≤ s → w.length ≤ a → P a w = .inr (a', w') → a' ≤ s ∧ w'.length ≤ a') (h1 : SPX T s e1 P) (h2 : SPX T s e2 Q) (hr : ∀ M, e M = (mm_aI (e1 M)).bind fun p1 => if p1.1 = 0 then some (some (.int (0 : Int32)), p1.2) else (mm_aI (e2 p1.2)).bind fun p2 => if p2.1 = 0 then some (some (.int (0 : Int32)), p2.2) else some (some (.int (1 : Int32)), p2.2)) : SPX T s e (fun a w => thenR (P a w) Q) := by
  intro M a w hT ha has hw hwl
  obtain ⟨q1, q2⟩ := h1 M a w hT ha has hw hwl
  rw [hr]
  dsimp only
  cases hp : P a w with
  | inl p =>
    obtain ⟨M1, e1, x1, y1⟩ := q1 p hp
    rw [e1, ra_I, Option.bind_some]
    dsimp only
    rw [if_pos rfl]
    exact ⟨(fun p e => by cases e; exact ⟨M1, rfl, x1, y1⟩), (fun a' w' e => by cases e)⟩
  | inr v =>
    obtain ⟨b, w1⟩ := v
    obtain ⟨M1, e1, x1, y1, z1⟩ := q2 b w1 hp
    obtain ⟨l1, l2⟩ := hl a w b w1 has hwl hp
    obtain ⟨u1, u2⟩ := h2 M1 b w1 (hT.lx x1) y1 l1 z1 l2
    rw [e1, ra_I, Option.bind_some]
    dsimp only
    rw [if_neg (by decide)]
    show (∀ p, Q b w1 = .inl p → _) ∧ ∀ a' w', Q b w1 = .inr (a', w') → _
    refine ⟨fun p e => ?_, fun a' w' e => ?_⟩
    · obtain ⟨M5, m1, m2, m3⟩ := u1 p e
      rw [m1, ra_I, Option.bind_some]
      dsimp only
      rw [if_pos rfl]
      exact ⟨M5, rfl, x1.tr m2, m3⟩
    · obtain ⟨M5, m1, m2, m3, m4⟩ := u2 a' w' e
      rw [m1, ra_I, Option.bind_some]
      dsimp only
      rw [if_neg (by decide)]
      exact ⟨M5, rfl, x1.tr m2, m3, m4⟩
theorem GP_tru {u : Nat → List Int32 → RL} {h : Nat} (hu : GP s h true u) (h2 : 2 ≤ h) : GP s (h + 1) true (truP T s u) := GP_then hu (by decide) (fun _ => rfl) (fun _ => rfl) (Nat.le_refl _) (by omega)
theorem E_truX (hN : 1000 ≤ N) (B : Nat) (hB : 4 ≤ B) {y1 : Int32} {P : Nat → List Int32 → RL} {h : Nat} (hG : GP s h true P) (hU : ∀ K, B ≤ K → SPX T s (fun M => mm_E n xs N K 26 [.ref 23, .int y1] M) P) (K : Nat) (hK : B + 2 ≤ K) : SPX T s (fun M => mm_E n xs N K 24 [.ref 23, .int y1] M) (truP T s P) := by
  obtain ⟨d, rfl⟩ : ∃ d, K = d + 6 := ⟨K - 6, by omega⟩
  exact SPX_seq (fun _ _ _ _ ha hw e => hG.len ha hw e) (hU (d + 5) (by omega)) (E_unitsX hN d hG (hU (d + 4) (by omega))) (fun M => u_X3_isTruthNext n xs N (d + 5) M y1)
theorem E_trusX (hN : 1000 ≤ N) (B : Nat) (hB : 4 ≤ B) {y1 : Int32} {P : Nat → List Int32 → RL} {h : Nat} (hG : GP s h true P) (h2 : 2 ≤ h) (hU : ∀ K, B ≤ K → SPX T s (fun M => mm_E n xs N K 26 [.ref 23, .int y1] M) P) (K : Nat) (hK : B + 3 ≤ K) : SPX T s (fun M => mm_E n xs N K 23 [.ref 23, .int y1] M) (orP T s P) := by
  obtain ⟨d, rfl⟩ : ∃ d, K = d + 5 := ⟨K - 5, by omega⟩
  exact E_truthsX hN d (GP_tru hG h2) (E_truX hN B hB hG hU (d + 4) (by omega))
theorem E_conX (hN : 1000 ≤ N) (B : Nat) (hB : 4 ≤ B) {y1 : Int32} {P : Nat → List Int32 → RL} {h : Nat} (hG : GP s h true P) (h2 : 2 ≤ h) (hU : ∀ K, B ≤ K → SPX T s (fun M => mm_E n xs N K 26 [.ref 23, .int y1] M) P) (K : Nat) (hK : B + 4 ≤ K) : SPX T s (fun M => mm_E n xs N K 22 [.ref 23, .int y1] M) (conP T s P) := by
  obtain ⟨d, rfl⟩ : ∃ d, K = d + 1 := ⟨K - 1, by omega⟩
  exact SPX_seq (fun _ _ _ _ ha hw e => (GP_tru hG h2).len ha hw e) (E_truX hN B hB hG hU d (by omega)) (E_trusX hN B hB hG h2 hU d (by omega)) (fun M => u_X3_isConditionNext n xs N d M y1)
end LQ
