section DP
variable {T : Nat → Int32} {s a kd : Nat} {m : Nat → Nat} {v : Nat → Int32}
theorem vlP_p {k p : Nat} (has : a ≤ s) (h : vlP T s kd k a = .inl p) : p ≤ s := by
  have hb := sk_le (T := T) has
  have g1 := nmF_ge T s 2 (sk T s a) 0 hb
  unfold vlP at h
  split at h
  · split at h
    · cases h; exact g1.2
    · split at h
      · cases h
      · cases h; omega
  · cases h; exact hb
theorem itL_p {g p : Nat} : ∀ (f a fnd : Nat) (v : Nat → Int32), kd < 3 → a ≤ s → itL T s kd g f a fnd v = .inl p → p ≤ s
  | 0, a, fnd, v, _, has, h => by cases h
  | f + 1, a, fnd, v, h3, has, h => by
    have hb := sk_le (T := T) has
    rw [itL_s] at h
    cases e : itN kd (cu T s (sk T s a)) with
    | none => rw [e] at h; cases h
    | some k =>
      rw [e] at h
      dsimp only at h
      obtain ⟨-, hlt⟩ := it_in h3 e
      split at h
      · cases h; exact hb
      · cases e2 : vlP T s kd k (sk T s a + 1) with
        | inl p' => rw [e2] at h; cases h; exact vlP_p (by omega) e2
        | inr r =>
          rw [e2] at h
          obtain ⟨g1, g2, -⟩ := vlP_ge (by omega) e2
          exact itL_p f r.1 _ _ h3 g2 h
theorem clP_p {p : Nat} (has : a ≤ s) (e : clP T s a m v = .inl p) : p ≤ s := by
  have hb := sk_le (T := T) has
  unfold clP at e
  cases e1 : kdN (cu T s (sk T s a)) with
  | none => rw [e1] at e; cases e; exact hb
  | some k =>
    rw [e1] at e
    dsimp only at e
    obtain ⟨h3, hlt, -⟩ := kd_in e1
    split at e
    · cases e5 : itL T s k (plK k (m k)) (s + 1) (sk T s a + 1) 0 (dfl k (m k) v) with
      | inl p' => rw [e5] at e; cases e; exact itL_p _ _ _ _ h3 (by omega) e5
      | inr r => rw [e5] at e; cases e
    · cases e; exact hb
theorem duP_p {p : Nat} : ∀ (f a : Nat) (m : Nat → Nat) (v : Nat → Int32), VB m v → a ≤ s → duP T s f a m v = .inl p → p ≤ s
  | 0, a, m, v, _, has, e => by cases e; exact has
  | f + 1, a, m, v, hv, has, e => by
    rw [duP_s] at e
    cases e1 : clP T s a m v with
    | inl p' => rw [e1] at e; cases e; exact clP_p has e1
    | inr r =>
      rw [e1] at e
      have hr := clP_b hv e1
      obtain ⟨-, g1, g2⟩ := clP_m (fun k hk => (hv.2 k hk).1) has e1
      have hb := sk_le (T := T) g2
      dsimp only at e
      split at e
      · next q =>
        have := cu_lt q (by decide)
        exact duP_p f _ _ _ hr (by omega) e
      · split at e
        · cases e
        · cases e; exact hb
end DP
section TX9
variable {n : Nat} {xs : Nat → Int32} {N : Nat} {M : mmM}
theorem C_text0 (hT : TI n xs N M) (d : Nat) (x : Int32) (hx : x ≠ 1) : CC n xs N (d + 60) M 102 [.ref 16, .int x] 220 [.ref 60, .int x] := by
  obtain ⟨Ls, c, nc, nm, s, h1, ⟨p1, p2, p3, p4⟩, h3⟩ := id hT
  have hN := h1.b.1
  unfold CC
  by_cases h0 : x = 0
  · obtain ⟨a1, a2⟩ := E_duX (n := n) (xs := xs) (N := N) (M := M) (T := mm_I M 18) (s := s) (by omega) (d + 51) ⟨p1, p2, fun _ _ => rfl⟩
    cases hd : duP (mm_I M 18) s (s + 1) 0 (fun _ => 0) (dfl 0 0 (mm_I M 21)) with
    | inl p =>
      have mt : ∀ M1, DXf M M1 → MTp M1 (mm_I M 18) s := fun M1 x => by
        refine ⟨p1, ?_, ?_⟩
        · rw [x.2.2.2.2.2.1 60 (by decide) (by decide) (by decide)]; exact p3
        · rw [x.2.2.2.2.2.1 61 (by decide) (by decide) (by decide)]; exact fun i hi => (p4 i hi).1
      obtain ⟨M1, e1, x1⟩ := a1 p hd
      have hp : ¬ nI p = -1 := nI_ne1 (by have := duP_p _ _ _ _ (VB_0 (mm_I M 21)) (Nat.zero_le _) hd; omega)
      obtain ⟨M2, e2, x2⟩ := (E_duM (n := n) (xs := xs) (N := N) (by omega) (d + 53) (mm_I M 21) (mt M1 x1)).1 p hd
      refine ⟨-1, M1, M2, ?_, ?_, hT.du x1 x2⟩
      · rw [u_X11_text, if_pos h0, e1, ra_I, Option.bind_some]
        dsimp only
        rw [if_neg hp, if_neg hx]
      · rw [u_X12_text, if_pos h0, e2, ra_I, Option.bind_some]
        dsimp only
        rw [if_neg hp, if_neg hx]
    | inr q =>
      obtain ⟨hv, hm1, hm2⟩ := duP_b _ _ _ _ q (VB_0 (mm_I M 21)) hd
      obtain ⟨M1, e1, x1, mx, m21⟩ := a2 q hd
      obtain ⟨f1, f2, f3, f4, f5, f6, f7⟩ := x1
      have b1 : q.1 1 ≤ 4 := (hv.2 1 (by omega)).1
      have b2 : q.1 2 ≤ 7 := (hv.2 2 (by omega)).1
      have c17 : mm_E n xs N (d + 59) 73 [.ref 17, .int (0 : Int32)] M1 = some (some (.int 1), mm_wI M1 17 1 (0 : Int32)) := by
        rw [u_X9_cutBehind, if_neg (by decide), if_pos]
        rw [f7 1 (by decide), p2]
        exact (show nI 0 ≤ nI s from nI_le (by omega) (by omega))
      generalize hM2 : mm_wI M1 17 1 (0 : Int32) = M2 at c17
      have a2o : ∀ b, b ≠ 17 → mm_I M2 b = mm_I M1 b := fun b hb => by rw [← hM2, I_wn hb]
      obtain ⟨M3, e3, g1, g2, g3, g5, g6, g33, g34, g35, g36, g37, g38, g47, g16⟩ := E_begX (n := n) (xs := xs) (N := N) (by omega) (d + 54) M2
      have m34 : mm_I M3 34 2 = nI (q.1 2) := by rw [g34 2 (by omega), a2o 22 (by decide)]; exact (mx 2 (by omega)).1
      have o3 : ∀ b, b ≠ 16 → b ≠ 17 → b ≠ 21 → b ≠ 22 → b ≠ 33 → b ≠ 34 → b ≠ 35 → b ≠ 36 → b ≠ 37 → b ≠ 38 → b ≠ 47 → mm_I M3 b = mm_I M b := fun b w1 w2 w3 w4 w5 w6 w7 w8 w9 w10 w11 => by rw [g6 b w1 w5 w6 w7 w8 w9 w10 w11, a2o b w2, f6 b w2 w3 w4]
      have o60 : mm_I M3 60 = mm_I M 60 := o3 60 (by decide) (by decide) (by decide) (by decide) (by decide) (by decide) (by decide) (by decide) (by decide) (by decide) (by decide)
      have mt : MTp M3 (mm_I M 18) s := ⟨p1, by rw [o60]; exact p3, by rw [o3 61 (by decide) (by decide) (by decide) (by decide) (by decide) (by decide) (by decide) (by decide) (by decide) (by decide) (by decide)]; exact fun i hi => (p4 i hi).1⟩
      obtain ⟨M4, e4, ⟨k1, k2, k3, k4, k5, k6, k7⟩, ⟨r1, r2, r3⟩⟩ := (E_duM (n := n) (xs := xs) (N := N) (M := M3) (T := mm_I M 18) (s := s) (by omega) (d + 53) (mm_I M 21) mt).2 q hd
      generalize hM4' : mm_wI M4 60 2 (0 : Int32) = M4'
      have i4 : ∀ b, b ≠ 60 → mm_I M4' b = mm_I M4 b := fun b hb => by rw [← hM4', I_wn hb]
      have j4 : ∀ y, mm_I M4' 60 y = if y = 2 then 0 else mm_I M4 60 y := fun y => by rw [← hM4', I_s]
      obtain ⟨M5, e5, t1, t2, t3, t5, t6, t60, t74, t75, t76, t77⟩ := E_takeM (n := n) (xs := xs) (N := N) (by omega) (d + 58) (q.1 1) (q.1 2) b1 M4' (by rw [j4, if_neg (by decide)]; exact r2) (by rw [j4, if_neg (by decide)]; exact r3)
      have c71 : ∀ k, k < 4 → mm_I M4' 71 k = q.2 k := fun k hk => by
        rw [i4 71 (by decide)]
        have := r1 0 (by omega) k (by rw [if_pos rfl]; exact hk)
        rw [show pl_o 0 + k = k by show 0 + k = k; omega] at this
        exact this
      have c72 : ∀ k, k < q.1 1 * 2 → mm_I M4' 72 k = q.2 (4 + k) := fun k hk => by
        rw [i4 72 (by decide)]
        exact r1 1 (by omega) k (by rw [if_neg (by decide)]; exact hk)
      have c73 : ∀ k, k < q.1 2 * 4 → mm_I M4' 73 k = q.2 (12 + k) := fun k hk => by
        rw [i4 73 (by decide)]
        exact r1 2 (by omega) k (by rw [if_neg (by decide)]; exact hk)
      have c21 : ∀ j, mm_I M2 21 j = q.2 j := fun j => by rw [a2o 21 (by decide), m21]
      have o5 : ∀ b, b ≠ 60 → (b < 71 ∨ 77 < b) → mm_I M5 b = mm_I M3 b := fun b w1 w2 => by rw [t6 b w1 (by omega) (by omega) (by omega) (by omega), i4 b w1, k6 b w1 (by omega) (by omega) (by omega)]
      refine ⟨nI (q.1 2), M3, M5, ?_, ?_, ?_⟩
      · rw [u_X11_text, if_pos h0, e1, ra_I, Option.bind_some]
        dsimp only
        rw [if_pos rfl, c17, ra_I, Option.bind_some]
        dsimp only
        rw [e3, ra_V, Option.bind_some, u_X10_howMany_32, u_X10_isKind, if_neg (by decide), if_neg (by decide), ra_I, Option.bind_some]
        dsimp only
        rw [if_neg (by decide), show mm_inb (2 : Int32) 3 = true from by decide, cond_true, show (2 : Int32).toNatClampNeg = 2 from by decide, m34, ra_I, Option.bind_some]
      · rw [u_X12_text, if_pos h0, e4, ra_I, Option.bind_some]
        dsimp only
        rw [if_pos rfl, hM4', e5, ra_I, Option.bind_some]
      · refine hT.nd (m := q.1) (v := q.2) hv hm1 hm2 ?_ ?_ ?_ ?_ ?_ ?_ ⟨?_, ?_⟩ ?_ ?_ ?_ ?_ ?_ ?_ ?_ ⟨?_, ?_, ?_, ?_, ?_⟩ ?_ ?_ ?_ ?_ ⟨by omega, ?_, ?_, fun i hi => by omega⟩
        · rw [t1, ← hM4']; show M4.1 = _; rw [k1, g1, ← hM2]; exact f1
        · rw [t2, ← hM4']; show M4.2.1 = _; rw [k2, g2, ← hM2]; exact f2
        · rw [t3, ← hM4']; show M4.2.2.1 = _; rw [k3, g3, ← hM2]; exact f3
        · rw [t5, ← hM4']; show M4.2.2.2.2.2 = _; rw [k5, g5, ← hM2]; exact f5
        · intro b w1 w2 w3 w4 w5 w6 w7 w8 w9 w10 w11 w12 w13
          rw [o5 b w12 w13, o3 b w1 w2 w3 w4 w5 w6 w7 w8 w9 w10 w11]
        · intro j hj; rw [o5 33 (by decide) (by omega), g33 j hj, c21]
        · rw [o5 34 (by decide) (by omega), g34 1 (by omega), a2o 22 (by decide)]; exact (mx 1 (by omega)).1
        · rw [o5 34 (by decide) (by omega)]; exact m34
        · intro j hj; rw [o5 35 (by decide) (by omega), g35 j hj, c21, c21]
        · intro c hc; rw [o5 36 (by decide) (by omega), g36 c hc]
        · intro c hc; rw [o5 37 (by decide) (by omega), g37 c hc, c21]
        · intro y; rw [o5 38 (by decide) (by omega), g38 y, a2o 38 (by decide), f6 38 (by decide) (by decide) (by decide)]
        · rw [o5 47 (by decide) (by omega)]; exact g47
        · intro y; rw [o5 16 (by decide) (by omega), g16 y, a2o 16 (by decide), f6 16 (by decide) (by decide) (by decide)]
        · intro y hy; rw [t60, if_neg (by omega), if_neg (by omega), if_neg (by omega), if_neg (by omega), if_neg (by omega), j4, if_neg (by omega), k7 y (by omega) (by omega) (by omega) (by omega), o60]
        · rw [t60]; rfl
        · rw [t60]; rfl
        · rw [t60]; rfl
        · rw [t60]; rfl
        · rw [t60]; rfl
        · intro k hk; rw [t74 k hk, c71 k hk]
        · intro k hk; rw [t75 k (by omega), c72 k hk]
        · intro k hk; rw [t76 k (by omega), c73 k hk]
        · intro k hk
          rw [t77 k hk, c71 3 (by omega), c71 1 (by omega)]
          by_cases w : k < q.1 1
          · rw [if_pos w, if_pos w, c72 (2 * k) (by omega)]
          · rw [if_neg w, if_neg w]
        · rw [o5 17 (by decide) (by omega), g6 17 (by decide) (by decide) (by decide) (by decide) (by decide) (by decide) (by decide) (by decide), ← hM2, I_s, if_pos rfl]; exact nI_0.symm
        · rw [t60, if_neg (by decide), if_neg (by decide), if_neg (by decide), if_neg (by decide), if_neg (by decide), j4, if_pos rfl]; exact nI_0.symm
  · refine ⟨-1, M, M, ?_, ?_, hT⟩
    · rw [u_X11_text, if_neg h0, if_neg hx]
    · rw [u_X12_text, if_neg h0, if_neg hx]
end TX9
