/-- the reference read text t -/
def LMo (t : Nat) (M M' : mmM) : Prop := M'.1 = M.1 ∧ M'.2.1 = M.2.1 ∧ M'.2.2.1 = M.2.2.1 ∧ mm_J M' = mm_J M ∧ M'.2.2.2.2.2 = M.2.2.2.2.2 ∧ (∀ b, b ≠ 60 → (b < 62 ∨ 68 < b) → mm_I M' b = mm_I M b) ∧ (∀ q, q ≠ 3 → q ≠ 4 → q ≠ 5 → q ≠ 14 → mm_I M' 60 q = mm_I M 60 q) ∧ (∀ k, (k < 520 * t ∨ 520 * t + 520 ≤ k) → mm_I M' 62 k = mm_I M 62 k ∧ mm_I M' 63 k = mm_I M 63 k) ∧ (∀ q, q ≠ t → mm_I M' 65 q = mm_I M 65 q) ∧ ∀ k, (k < 140 * t ∨ 140 * t + 140 ≤ k) → mm_I M' 66 k = mm_I M 66 k ∧ mm_I M' 67 k = mm_I M 67 k ∧ mm_I M' 68 k = mm_I M 68 k
def LMres (T : Nat → Int32) (s t : Nat) (M : mmM) (e : Option mmR) (r : Nat ⊕ List (List Int32 × List Int32)) : Prop := (∀ p, r = .inl p → ∃ M1, e = some (some (.int (nI p)), M1) ∧ LMg t M M1) ∧ ∀ L, r = .inr L → ∃ M1, e = some (some (.int (-1)), M1) ∧ LMg t M M1 ∧ ∃ a, MC T s t M1 a L
section MK
variable {n : Nat} {xs : Nat → Int32} {N : Nat} {M M0 M1 M2 : mmM} {T : Nat → Int32} {s t a b p k : Nat} {w c u : List Int32} {L : List (List Int32 × List Int32)}
theorem MC.mt (h : MC T s t M a L) (x : LMf t M M1) (h1 : MS T s t 0 M1 b (fl L)) : MC T s t M1 b L :=
  ⟨h1, by rw [x.I6 (by omega)]; exact h.2.1, MKr_cg (fun i _ _ => ⟨by rw [x.I6 (by omega)], by rw [x.I6 (by omega)], by rw [x.I6 (by omega)]⟩) h.2.2⟩
theorem L_lawM (hN : 1000 ≤ N) (d : Nat) : ∀ (j i f a : Nat) (L : List (List Int32 × List Int32)) (M : mmM), i + j = 241 → j < f → i ≤ a → 2 * L.length ≤ a → MC T s t M a L → LMres T s t M ((mm_aV (mm_E n xs N (d + 37) 204 [.ref 60] M)).bind fun p => lp_X12_readLaw n xs N (d + 37) f 9 [some (.ref 60), none] [] p) (lawP T s j a L)
  | 0, i, f, a, L, M, hi, hf, hia, h2, h => by
    have := h.1.1.1
    have := h.1.2.2.1
    omega
  | j + 1, i, f, a, L, M, hi, hf, hia, h2, h => by
    have hs240 := h.1.1.1
    have has := h.1.2.2.1
    obtain ⟨f, rfl⟩ : ∃ g, f = g + 1 := ⟨f - 1, by omega⟩
    obtain ⟨q1, q2⟩ := E_clauM (n := n) (xs := xs) (N := N) hN d (by omega) h
    obtain ⟨o1, o2⟩ := clau_ok (T := T) has
    unfold lawP
    cases hr : clauP T s a with
    | inl p =>
      obtain ⟨M1, e1, x1, y1, b1⟩ := q1 p hr
      have hne : ¬ mm_I M1 60 4 = -1 := by
        rw [y1]
        exact fun q => nI_pos (n := p) (by omega) (by rw [q]; decide)
      rw [e1, ra_V, Option.bind_some, lu_X12_readLaw_9, if_neg hne, u_X12_atEnd, if_neg hne, ra_I, Option.bind_some]
      dsimp only
      rw [y1]
      exact ⟨(fun p e => by cases e; exact ⟨M1, rfl, x1⟩), (fun L e => by cases e)⟩
    | inr v =>
      obtain ⟨b, c, u⟩ := v
      obtain ⟨g1, g2, g3, g4⟩ := o2 b c u hr
      obtain ⟨M1, e1, x1, h1⟩ := q2 b c u hr
      have k1 := sk_ge T s b
      have k2 := sk_le (T := T) g1
      obtain ⟨M2, e2, x2, m2⟩ := E_lookS (n := n) (xs := xs) (N := N) hN (d + 35) h1.1
      have h2' := h1.mt x2 m2
      have hlen : (L ++ [(c, u)]).length = L.length + 1 := by rw [List.length_append, List.length_cons, List.length_nil]
      rw [e1, ra_V, Option.bind_some, lu_X12_readLaw_9, if_pos h1.1.2.2.2.1, e2, ra_I, Option.bind_some]
      dsimp only
      by_cases c1 : cu T s (sk T s b) = 59
      · have hlt := cu_lt c1 (by decide)
        rw [if_pos c1, if_pos c1, m2.2.1, nI_1]
        have h3 := h2'.mt LMf.w3 (m2.st hlt)
        obtain ⟨u1, u2⟩ := L_lawM hN d j (i + 1) f (sk T s b + 1) (L ++ [(c, u)]) _ (by omega) (by omega) (by omega) (by omega) h3
        refine ⟨fun p e => ?_, fun L' e => ?_⟩
        · obtain ⟨M5, m1, m3⟩ := u1 p e
          exact ⟨M5, m1, (x1.tr (x2.tr LMf.w3).g).tr m3⟩
        · obtain ⟨M5, m1, m3, m4⟩ := u2 L' e
          exact ⟨M5, m1, (x1.tr (x2.tr LMf.w3).g).tr m3, m4⟩
      · obtain ⟨M3, e3, x3, m3⟩ := E_lookS (n := n) (xs := xs) (N := N) hN (d + 34) m2
        rw [sk_sk g1] at e3 m3
        rw [if_neg c1, if_neg c1, u_X12_atEnd, if_pos m2.2.2.2.1, e3, ra_I, Option.bind_some]
        dsimp only
        by_cases c2 : cu T s (sk T s b) = -1
        · rw [if_pos c2, if_pos c2, ra_I, Option.bind_some]
          dsimp only
          rw [m3.2.2.2.1]
          exact ⟨(fun p e => by cases e), (fun L' e => by cases e; exact ⟨M3, rfl, x1.tr (x2.tr x3).g, _, h2'.mt x3 m3⟩)⟩
        · rw [if_neg c2, if_neg c2, E_badS (d + 35) m3, ra_V, Option.bind_some, ra_I, Option.bind_some]
          dsimp only
          rw [I_s, if_pos rfl]
          exact ⟨(fun p e => by cases e; exact ⟨_, rfl, x1.tr ((x2.tr x3).tr LMf.w4).g⟩), (fun L' e => by cases e)⟩
theorem LMg.o (h : LMg t M M1) : LMo t M M1 := by
  obtain ⟨h1, h2, h3, h4, h5, h6, h7, h8, h9, h10⟩ := h
  exact ⟨h1, h2, h3, h4, h5, h6, fun q q1 q2 q3 _ => h7 q q1 q2 q3, h8, fun q hq => (h9 q hq).2, h10⟩
theorem LMo.tr (h : LMo t M M1) (g : LMo t M1 M2) : LMo t M M2 := by
  obtain ⟨h1, h2, h3, h4, h5, h6, h7, h8, h9, h10⟩ := h
  obtain ⟨g1, g2, g3, g4, g5, g6, g7, g8, g9, g10⟩ := g
  exact ⟨g1.trans h1, g2.trans h2, g3.trans h3, g4.trans h4, g5.trans h5, fun b b1 b2 => (g6 b b1 b2).trans (h6 b b1 b2), fun q q1 q2 q3 q4 => (g7 q q1 q2 q3 q4).trans (h7 q q1 q2 q3 q4), fun k hk => ⟨(g8 k hk).1.trans (h8 k hk).1, (g8 k hk).2.trans (h8 k hk).2⟩, fun q hq => (g9 q hq).trans (h9 q hq), fun k hk => ⟨(g10 k hk).1.trans (h10 k hk).1, (g10 k hk).2.1.trans (h10 k hk).2.1, (g10 k hk).2.2.trans (h10 k hk).2.2⟩⟩
theorem E_lawM (hN : 1000 ≤ N) (d : Nat) {y : Int32} (ht : t < 5) (hy : y = nI t) (hT : MTp M T s) : (∀ p, lawP T s 241 0 [] = .inl p → ∃ M1, mm_E n xs N (d + 38) 207 [.ref 60, .int y] M = some (some (.int (nI p)), M1) ∧ LMo t M M1) ∧ ∀ L, lawP T s 241 0 [] = .inr L → ∃ M1, mm_E n xs N (d + 38) 207 [.ref 60, .int y] M = some (some (.int (-1)), M1) ∧ LMo t M M1 ∧ ∃ a, MC T s t M1 a L := by
  subst hy
  rw [u_X12_readLaw, u_X12_open, nI_clamp (by omega), mm_inb_nI (n := 5) ht (by omega)]
  have hlo : LMo t M (mm_wI (mm_wI (mm_wI (mm_wI (mm_wI (mm_wI M 60 14 (nI t)) 60 3 (0 : Int32)) 60 4 (-1 : Int32)) 60 5 (0 : Int32)) 64 t (0 : Int32)) 65 t (0 : Int32)) := by
    refine ⟨rfl, rfl, rfl, rfl, rfl, fun b b1 b2 => ?_, fun q q1 q2 q3 q4 => ?_, fun k _ => ?_, fun q hq => ?_, fun k _ => ?_⟩
    · rw [I_wn (by omega), I_wn (by omega), I_wn b1, I_wn b1, I_wn b1, I_wn b1]
    · rw [I_wn (by decide), I_wn (by decide), I_s, if_neg q3, I_s, if_neg q2, I_s, if_neg q1, I_s, if_neg q4]
    · exact ⟨by simp only [I_wn (show (62 : Nat) ≠ 60 by decide), I_wn (show (62 : Nat) ≠ 64 by decide), I_wn (show (62 : Nat) ≠ 65 by decide)], by simp only [I_wn (show (63 : Nat) ≠ 60 by decide), I_wn (show (63 : Nat) ≠ 64 by decide), I_wn (show (63 : Nat) ≠ 65 by decide)]⟩
    · rw [I_s, if_neg hq]
      simp only [I_wn (show (65 : Nat) ≠ 60 by decide), I_wn (show (65 : Nat) ≠ 64 by decide)]
    · exact ⟨by simp only [I_wn (show (66 : Nat) ≠ 60 by decide), I_wn (show (66 : Nat) ≠ 64 by decide), I_wn (show (66 : Nat) ≠ 65 by decide)], by simp only [I_wn (show (67 : Nat) ≠ 60 by decide), I_wn (show (67 : Nat) ≠ 64 by decide), I_wn (show (67 : Nat) ≠ 65 by decide)], by simp only [I_wn (show (68 : Nat) ≠ 60 by decide), I_wn (show (68 : Nat) ≠ 64 by decide), I_wn (show (68 : Nat) ≠ 65 by decide)]⟩
  generalize hM : mm_wI (mm_wI (mm_wI (mm_wI (mm_wI (mm_wI M 60 14 (nI t)) 60 3 (0 : Int32)) 60 4 (-1 : Int32)) 60 5 (0 : Int32)) 64 t (0 : Int32)) 65 t (0 : Int32) = M0 at hlo
  have hmc : MC T s t M0 0 [] := by
    have e60 : ∀ q, mm_I M0 60 q = if q = 5 then 0 else if q = 4 then -1 else if q = 3 then 0 else if q = 14 then nI t else mm_I M 60 q := fun q => by
      rw [← hM, I_wn (by decide), I_wn (by decide), I_s, I_s, I_s, I_s]
    refine ⟨⟨⟨hT.1, ?_, ?_⟩, ?_, by omega, ?_, ?_, ?_, ht, ⟨?_, trivial⟩, Nat.le_refl _⟩, ?_, trivial⟩
    · rw [hlo.2.2.2.2.2.2.1 2 (by decide) (by decide) (by decide) (by decide)]; exact hT.2.1
    · rw [hlo.2.2.2.2.2.1 61 (by decide) (by omega)]; exact hT.2.2
    · rw [e60, if_neg (by decide), if_neg (by decide), if_pos rfl]; exact nI_0.symm
    · rw [e60, if_neg (by decide), if_pos rfl]
    · rw [e60, if_pos rfl]; exact nI_0.symm
    · rw [e60, if_neg (by decide), if_neg (by decide), if_neg (by decide), if_pos rfl]
    · rw [← hM, I_wn (by decide), I_s, if_pos rfl]; exact nI_0.symm
    · rw [← hM, I_s, if_pos rfl]; exact nI_0.symm
  show (∀ p, lawP T s 241 0 [] = .inl p → ∃ M1, ((mm_aV (some (none, M0))).bind fun p1 => (mm_aV (mm_E n xs N (d + 37) 204 [.ref 60] p1)).bind fun p2 => lp_X12_readLaw n xs N (d + 37) N 9 [some (.ref 60), none] [] p2) = _ ∧ _) ∧ ∀ L, lawP T s 241 0 [] = .inr L → ∃ M1, ((mm_aV (some (none, M0))).bind fun p1 => (mm_aV (mm_E n xs N (d + 37) 204 [.ref 60] p1)).bind fun p2 => lp_X12_readLaw n xs N (d + 37) N 9 [some (.ref 60), none] [] p2) = _ ∧ _
  rw [ra_V, Option.bind_some]
  obtain ⟨u1, u2⟩ := L_lawM (n := n) (xs := xs) (N := N) hN d 241 0 N 0 [] M0 (by omega) (by omega) (by omega) (by exact Nat.le_refl _) hmc
  refine ⟨fun p e => ?_, fun L' e => ?_⟩
  · obtain ⟨M5, m1, m2⟩ := u1 p e
    exact ⟨M5, m1, hlo.tr m2.o⟩
  · obtain ⟨M5, m1, m2, m3⟩ := u2 L' e
    exact ⟨M5, m1, hlo.tr m2.o, m3⟩
end MK
