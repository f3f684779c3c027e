section LZ
variable {n : Nat} {xs : Nat → Int32} {N : Nat} {T : Nat → Int32} {s : Nat}
/-- the class's law: the fault's place, or none and the law stands written -/
def LXres (M : mmM) (e : Option mmR) (r : Nat ⊕ List (List Int32 × List Int32)) : Prop := (∀ p, r = .inl p → ∃ M1, e = some (some (.int (nI p)), M1) ∧ LXf M M1) ∧ ∀ L, r = .inr L → ∃ M1, e = some (some (.int (-1)), M1) ∧ LXf M M1 ∧ WX M1 (encL L)
theorem L_lawX (hN : 1000 ≤ N) (d : Nat) : ∀ (j i f a : Nat) (L : List (List Int32 × List Int32)) (M : mmM), i + j = 241 → j < f → i ≤ a → XTp M T s → mm_I M 17 2 = nI a → a ≤ s → WX M (encL L) → (encL L).length ≤ a → LXres M (lp_X3_firstFault n xs N (d + 44) f 14 [some (.ref 23), some (.int (nI i))] [] M) (lawP T s j a L)
  | 0, i, f, a, L, M, hi, hf, hia, hT, ha, has, hw, hwl => by
    have := hT.1
    omega
  | j + 1, i, f, a, L, M, hi, hf, hia, hT, ha, has, hw, hwl => by
    obtain ⟨f, rfl⟩ : ∃ g, f = g + 1 := ⟨f - 1, by omega⟩
    have hs240 := hT.1
    rw [lu_X3_firstFault_14, if_neg (show ¬ (240 : Int32) < nI i from fun q => by have := (nI_ltI (a := 240) (by omega) (by omega)).mp q; omega)]
    obtain ⟨q1, q2⟩ := E_clauX (n := n) (xs := xs) (N := N) hN d M a (encL L) hT ha has hw hwl
    obtain ⟨o1, o2⟩ := clau_ok (T := T) has
    rw [clau_add has] at q1 q2
    dsimp only at q1 q2
    unfold lawP
    cases hr : clauP T s a with
    | inl p =>
      obtain ⟨M1, e1, x1, y1⟩ := q1 p (by rw [hr]; rfl)
      rw [e1, ra_I, Option.bind_some]
      dsimp only
      rw [if_pos rfl, u_X9_at, ra_I, Option.bind_some]
      dsimp only
      rw [y1]
      exact ⟨(fun p e => by cases e; exact ⟨M1, rfl, x1⟩), (fun L e => by cases e)⟩
    | inr v =>
      obtain ⟨b, c, t⟩ := v
      obtain ⟨g1, g2, g3, g4⟩ := o2 b c t hr
      obtain ⟨M1, e1, x1, y1, z1⟩ := q2 b (encL L ++ encQ c t) (by rw [hr]; rfl)
      have hlen : (encL (L ++ [(c, t)])).length ≤ b := by rw [encL_snoc]; omega
      have he := encL_add L c t
      have hl1 : (encL L ++ encQ c t).length < 240 := by
        rw [he, List.length_append, List.length_cons, List.length_nil] at hlen
        omega
      rw [e1, ra_I, Option.bind_some]
      dsimp only
      rw [if_neg (by decide)]
      obtain ⟨M2, e2, x2, y2, z2⟩ := E_writeL (n := n) (xs := xs) (N := N) (d + 43) (-59) z1 hl1
      rw [← he] at z2
      have fr : LXf M M2 := x1.tr x2
      obtain ⟨M3, e3, x3⟩ := E_takeS (n := n) (xs := xs) (N := N) hN (d + 42) (hT.lx fr) (by rw [y2]; exact y1) g1 59
      have k1 := sk_ge T s b
      have k2 := sk_le (T := T) g1
      rw [e2, ra_V, Option.bind_some, e3, ra_I, Option.bind_some]
      dsimp only
      by_cases h1 : cu T s (sk T s b) = 59
      · have := cu_lt h1 (by decide)
        rw [if_pos h1] at x3
        rw [if_pos h1, decide_eq_true h1, if_neg (show ¬ mb true = 0 by decide), nI_1]
        obtain ⟨u1, u2⟩ := L_lawX hN d j (i + 1) f (sk T s b + 1) (L ++ [(c, t)]) M3 (by omega) (by omega) (by omega) ((hT.lx fr).xt x3) x3.pl (by omega) (z2.xt x3) (by omega)
        refine ⟨fun p e => ?_, fun L' e => ?_⟩
        · obtain ⟨M5, m1, m2⟩ := u1 p e
          exact ⟨M5, m1, (fr.tr x3.lx).tr m2⟩
        · obtain ⟨M5, m1, m2, m3⟩ := u2 L' e
          exact ⟨M5, m1, (fr.tr x3.lx).tr m2, m3⟩
      · rw [if_neg h1] at x3
        have hT3 := (hT.lx fr).xt x3
        rw [if_neg h1, decide_eq_false h1, if_pos (show mb false = 0 by decide)]
        obtain ⟨M4, e4, x4⟩ := E_lookX (n := n) (xs := xs) (N := N) hN (d + 43) hT3 x3.pl k2
        rw [sk_sk g1] at e4 x4
        rw [e4, ra_I, Option.bind_some]
        dsimp only
        by_cases h2 : cu T s (sk T s b) = -1
        · rw [if_pos h2, if_pos h2]
          exact ⟨(fun p e => by cases e), (fun L' e => by cases e; exact ⟨M4, rfl, (fr.tr x3.lx).tr x4.lx, (z2.xt x3).xt x4⟩)⟩
        · rw [if_neg h2, if_neg h2, u_X9_at, ra_I, Option.bind_some]
          dsimp only
          rw [x4.pl]
          exact ⟨(fun p e => by cases e; exact ⟨M4, rfl, (fr.tr x3.lx).tr x4.lx⟩), (fun L' e => by cases e)⟩
theorem E_lawX (hN : 1000 ≤ N) (d : Nat) {M : mmM} (hT : XTp M T s) : LXres M (mm_E n xs N (d + 45) 19 [.ref 23] M) (lawP T s 241 0 []) := by
  have x0 : LXf M (mm_wI M 23 2 (0 : Int32)) := ⟨rfl, rfl, rfl, rfl, rfl, fun b b1 b2 b3 => I_wn b2, fun q _ => by rw [I_wn (by decide)], fun q hq => by rw [I_s, if_neg hq]⟩
  have x1 : XT (mm_wI M 23 2 (0 : Int32)) (mm_wI (mm_wI M 23 2 (0 : Int32)) 17 2 (nI 0)) 0 := XT.w
  have w0 : WX (mm_wI M 23 2 (0 : Int32)) [] := ⟨by rw [I_s, if_pos rfl]; exact nI_0.symm, trivial⟩
  rw [u_X3_firstFault, u_X9_rewind, ra_V, Option.bind_some]
  rw [nI_0] at x1
  obtain ⟨u1, u2⟩ := L_lawX (n := n) (xs := xs) (N := N) hN d 241 0 N 0 [] _ (by omega) (by omega) (by omega) ((hT.lx x0).xt x1) (by rw [nI_0]; exact x1.pl.trans nI_0) (by omega) (w0.xt x1) (Nat.le_refl _)
  rw [nI_0] at u1 u2
  refine ⟨fun p e => ?_, fun L' e => ?_⟩
  · obtain ⟨M5, m1, m2⟩ := u1 p e
    exact ⟨M5, m1, (x0.tr x1.lx).tr m2⟩
  · obtain ⟨M5, m1, m2, m3⟩ := u2 L' e
    exact ⟨M5, m1, (x0.tr x1.lx).tr m2, m3⟩
end LZ
