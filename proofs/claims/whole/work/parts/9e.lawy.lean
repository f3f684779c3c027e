section LY
variable {n : Nat} {xs : Nat → Int32} {N : Nat} {T : Nat → Int32} {s : Nat}
theorem SPX_bind {e e1 e2 : mmM → Option mmR} {P Q : Nat → List Int32 → RL} (hl : LN s P) (h1 : SPX T s e1 P) (h2 : SPX T s e2 Q) (hr : ∀ M, e M = (mm_aI (e1 M)).bind fun p1 => if p1.1 = 0 then some (some (.int (0 : Int32)), p1.2) else e2 p1.2) : SPX T s e (fun a w => thenR (P a w) Q) := by
  intro M a w hT ha has hw hwl
  obtain ⟨q1, q2⟩ := h1 M a w hT ha has hw hwl
  rw [hr]
  dsimp only
  cases hp : P a w with
  | inl p =>
    obtain ⟨M1, e1, x1, y1⟩ := q1 p hp
    rw [e1, ra_I, Option.bind_some]
    dsimp only
    rw [if_pos rfl]
    exact ⟨(fun p e => by cases e; exact ⟨M1, rfl, x1, y1⟩), (fun a' w' e => by cases e)⟩
  | inr v =>
    obtain ⟨b, w1⟩ := v
    obtain ⟨M1, e1, x1, y1, z1⟩ := q2 b w1 hp
    obtain ⟨l1, l2⟩ := hl a w b w1 has hp
    obtain ⟨u1, u2⟩ := h2 M1 b w1 (hT.lx x1) y1 l1 z1 (by omega)
    rw [e1, ra_I, Option.bind_some]
    dsimp only
    rw [if_neg (by decide)]
    refine ⟨fun p e => ?_, fun a' w' e => ?_⟩
    · obtain ⟨M5, m1, m2, m3⟩ := u1 p e
      exact ⟨M5, m1, x1.tr m2, m3⟩
    · obtain ⟨M5, m1, m2, m3, m4⟩ := u2 a' w' e
      exact ⟨M5, m1, x1.tr m2, m3, m4⟩
theorem SPX_01 {e e1 : mmM → Option mmR} {P : Nat → List Int32 → RL} (h1 : SPX T s e1 P) (hr : ∀ M, e M = (mm_aI (e1 M)).bind fun p1 => if p1.1 = 0 then some (some (.int (0 : Int32)), p1.2) else some (some (.int (1 : Int32)), p1.2)) : SPX T s e P := by
  intro M a w hT ha has hw hwl
  obtain ⟨u1, u2⟩ := h1 M a w hT ha has hw hwl
  rw [hr]
  refine ⟨fun p e => ?_, fun a' w' e => ?_⟩
  · obtain ⟨M5, m1, m2, m3⟩ := u1 p e
    rw [m1, ra_I, Option.bind_some]
    dsimp only
    rw [if_pos rfl]
    exact ⟨M5, rfl, m2, m3⟩
  · obtain ⟨M5, m1, m2, m3, m4⟩ := u2 a' w' e
    rw [m1, ra_I, Option.bind_some]
    dsimp only
    rw [if_neg (by decide)]
    exact ⟨M5, rfl, m2, m3, m4⟩
theorem E_sum0 (hN : 1000 ≤ N) (K : Nat) (hK : 24 ≤ K) : SPX T s (fun M => mm_E n xs N K 29 [.ref 23, .int (0 : Int32)] M) (sumD T s 6) := by
  have := E_sumDK (n := n) (xs := xs) (N := N) (T := T) (s := s) hN 6 K (by omega) (by omega)
  rwa [Nat.sub_self, nI_0] at this
theorem E_cmp0 (hN : 1000 ≤ N) (K : Nat) (hK : 25 ≤ K) : SPX T s (fun M => mm_E n xs N K 27 [.ref 23, .int (0 : Int32)] M) (cmpP T s 6) := by
  have := E_cmpK (n := n) (xs := xs) (N := N) (T := T) (s := s) hN 6 K (by omega) (by omega)
  rwa [Nat.sub_self, nI_0] at this
theorem E_unit0 (hN : 1000 ≤ N) (K : Nat) (hK : 39 ≤ K) : SPX T s (fun M => mm_E n xs N K 26 [.ref 23, .int (0 : Int32)] M) (unitD T s 6) := by
  have := E_unitDX (n := n) (xs := xs) (N := N) (T := T) (s := s) hN 6 K (by omega) (by omega)
  rwa [Nat.sub_self, nI_0] at this
theorem E_units0 (hN : 1000 ≤ N) (K : Nat) (hK : 43 ≤ K) : SPX T s (fun M => mm_E n xs N K 25 [.ref 23, .int (0 : Int32)] M) (andP T s (unitD T s 6)) := by
  obtain ⟨d, rfl⟩ : ∃ d, K = d + 5 := ⟨K - 5, by omega⟩
  exact E_unitsX hN d (GP_unitD 6) (E_unit0 hN (d + 4) (by omega))
theorem E_trus0 (hN : 1000 ≤ N) (K : Nat) (hK : 43 ≤ K) : SPX T s (fun M => mm_E n xs N K 23 [.ref 23, .int (0 : Int32)] M) (orP T s (unitD T s 6)) := E_trusX hN 39 (by omega) (GP_unitD 6) (by omega) (fun K hK => E_unit0 hN K hK) K (by omega)
theorem E_con0 (hN : 1000 ≤ N) (K : Nat) (hK : 43 ≤ K) : SPX T s (fun M => mm_E n xs N K 22 [.ref 23, .int (0 : Int32)] M) (conP T s (unitD T s 6)) := E_conX hN 39 (by omega) (GP_unitD 6) (by omega) (fun K hK => E_unit0 hN K hK) K (by omega)
theorem E_sbX (hN : 1000 ≤ N) (d : Nat) : SPX T s (fun M => mm_E n xs N (d + 25) 21 [.ref 23] M) (sbQ T s) := by
  intro M a w hT ha has hw hwl
  have k1 := sk_ge T s a
  have hs240 := hT.1
  obtain ⟨M1, e1, x1⟩ := E_takeS (n := n) (xs := xs) (N := N) hN (d + 22) hT ha has 63
  dsimp only
  rw [u_X3_isSumBehindCondition, e1, ra_I, Option.bind_some]
  dsimp only
  unfold sbQ mustP
  by_cases c : cu T s (sk T s a) = 63
  · have hlt := cu_lt c (by decide)
    rw [if_pos c] at x1
    obtain ⟨M2, e2, x2, y2, z2⟩ := E_writeL (n := n) (xs := xs) (N := N) (d + 23) (-63) (hw.xt x1) (by omega)
    have fr : LXf M M2 := x1.lx.tr x2
    rw [if_pos c, decide_eq_true c, if_neg (show ¬ mb true = 0 by decide), e2, ra_V, Option.bind_some]
    obtain ⟨u1, u2⟩ := E_sum0 (n := n) (xs := xs) (N := N) hN (d + 24) (by omega) M2 (sk T s a + 1) (w ++ [-63]) (hT.lx fr) (by rw [y2]; exact x1.pl) (by omega) z2 (by rw [List.length_append, List.length_cons, List.length_nil]; omega)
    refine ⟨fun p e => ?_, fun a' w' e => ?_⟩
    · obtain ⟨M5, m1, m2, m3⟩ := u1 p e
      dsimp only at m1
      rw [m1, ra_I, Option.bind_some]
      dsimp only
      rw [if_pos rfl]
      exact ⟨M5, rfl, fr.tr m2, m3⟩
    · obtain ⟨M5, m1, m2, m3, m4⟩ := u2 a' w' e
      dsimp only at m1
      rw [m1, ra_I, Option.bind_some]
      dsimp only
      rw [if_neg (by decide), if_pos rfl]
      exact ⟨M5, rfl, fr.tr m2, m3, m4⟩
  · rw [if_neg c] at x1
    rw [if_neg c, decide_eq_false c, if_pos (show mb false = 0 by decide)]
    exact ⟨(fun p e => by cases e; exact ⟨M1, rfl, x1.lx, x1.pl⟩), (fun a' w' e => by cases e)⟩
theorem LN_unitD (g : Nat) : LN s (unitD T s g) := (GP_unitD g).ln
theorem LN_andD : LN s (andP T s (unitD T s 6)) := LN_loop (LN_unitD 6) (by decide) 240
theorem LN_orD : LN s (orP T s (unitD T s 6)) := LN_loop (GP_tru (GP_unitD 6) (by omega)).ln (by decide) 240
noncomputable def clT4 (n : Nat) (xs : Nat → Int32) (N K : Nat) (M : mmM) : Option mmR := (mm_aI (mm_E n xs N K 23 [.ref 23, .int (0 : Int32)] M)).bind fun p1 => if p1.1 = 0 then some (some (.int (0 : Int32)), p1.2) else (mm_aI (mm_E n xs N K 21 [.ref 23] p1.2)).bind fun p2 => if p2.1 = 0 then some (some (.int (0 : Int32)), p2.2) else some (some (.int (1 : Int32)), p2.2)
noncomputable def clT3 (n : Nat) (xs : Nat → Int32) (N K : Nat) (M : mmM) : Option mmR := (mm_aI (mm_E n xs N K 25 [.ref 23, .int (0 : Int32)] M)).bind fun p1 => if p1.1 = 0 then some (some (.int (0 : Int32)), p1.2) else clT4 n xs N K p1.2
noncomputable def clT2 (n : Nat) (xs : Nat → Int32) (N K : Nat) (M : mmM) : Option mmR := (mm_aI (mm_E n xs N K 27 [.ref 23, .int (0 : Int32)] M)).bind fun p1 => if p1.1 = 0 then some (some (.int (0 : Int32)), p1.2) else clT3 n xs N K p1.2
noncomputable def clT1 (n : Nat) (xs : Nat → Int32) (N K : Nat) (M : mmM) : Option mmR := (mm_aI (mm_E n xs N K 76 [.ref 17] M)).bind fun p9 => (mm_aI (mm_E n xs N K 28 [.int p9.1] p9.2)).bind fun p10 => if p10.1 = 0 then some (some (.int (1 : Int32)), p10.2) else clT2 n xs N K p10.2
theorem E_clT2 (hN : 1000 ≤ N) (d : Nat) : SPX T s (clT2 n xs N (d + 43)) (fun a w => thenR (cmpP T s 6 a w) (fun a w => thenR (andP T s (unitD T s 6) a w) (fun a w => thenR (orP T s (unitD T s 6) a w) (sbQ T s)))) :=
  SPX_bind (LN_cmp 6) (E_cmp0 hN (d + 43) (by omega)) (SPX_bind LN_andD (E_units0 hN (d + 43) (by omega)) (SPX_seq (fun a w a' w' ha hw e => by
    obtain ⟨l1, l2⟩ := LN_orD a w a' w' ha e
    exact ⟨l1, by omega⟩) (E_trus0 hN (d + 43) (by omega)) (E_sbX hN (d + 18)) (fun _ => rfl)) (fun _ => rfl)) (fun _ => rfl)
theorem E_clT1 (hN : 1000 ≤ N) (d : Nat) : SPX T s (clT1 n xs N (d + 43)) (tlQ T s) := by
  intro M a w hT ha has hw hwl
  have k1 := sk_ge T s a
  have k2 := sk_le (T := T) has
  obtain ⟨M1, e1, x1⟩ := E_lookX (n := n) (xs := xs) (N := N) hN (d + 42) hT ha has
  unfold clT1 tlQ
  rw [e1, ra_I, Option.bind_some]
  dsimp only
  rw [E_isC (d + 42), ra_I, Option.bind_some]
  dsimp only
  cases hc : isC (cu T s (sk T s a)) with
  | false =>
    rw [if_pos (show mb false = 0 by decide), if_neg (by decide)]
    exact ⟨(fun p e => by cases e), (fun a' w' e => by cases e; exact ⟨M1, rfl, x1.lx, x1.pl, hw.xt x1⟩)⟩
  | true =>
    rw [if_neg (show ¬ mb true = 0 by decide), if_pos rfl]
    obtain ⟨u1, u2⟩ := E_clT2 (n := n) (xs := xs) (N := N) hN d M1 (sk T s a) w (hT.xt x1) x1.pl k2 (hw.xt x1) (by omega)
    refine ⟨fun p e => ?_, fun a' w' e => ?_⟩
    · obtain ⟨M5, m1, m2, m3⟩ := u1 p e
      exact ⟨M5, m1, x1.lx.tr m2, m3⟩
    · obtain ⟨M5, m1, m2, m3, m4⟩ := u2 a' w' e
      exact ⟨M5, m1, x1.lx.tr m2, m3, m4⟩
noncomputable def clS1 (n : Nat) (xs : Nat → Int32) (N K : Nat) (M : mmM) : Option mmR := (mm_aI (mm_E n xs N K 22 [.ref 23, .int (0 : Int32)] M)).bind fun p1 => if p1.1 = 0 then some (some (.int (0 : Int32)), p1.2) else (mm_aI (mm_E n xs N K 21 [.ref 23] p1.2)).bind fun p2 => if p2.1 = 0 then some (some (.int (0 : Int32)), p2.2) else some (some (.int (1 : Int32)), p2.2)
noncomputable def clS2 (n : Nat) (xs : Nat → Int32) (N K : Nat) (M : mmM) : Option mmR := (mm_aI (mm_E n xs N K 29 [.ref 23, .int (0 : Int32)] M)).bind fun p1 => if p1.1 = 0 then some (some (.int (0 : Int32)), p1.2) else clT1 n xs N K p1.2
theorem E_clS1 (hN : 1000 ≤ N) (d : Nat) : SPX T s (clS1 n xs N (d + 43)) (fun a w => thenR (conP T s (unitD T s 6) a w) (sbQ T s)) :=
  SPX_seq (fun _ _ _ _ ha hw e => (GP_con (GP_unitD 6) (by omega)).len ha hw e) (E_con0 hN (d + 43) (by omega)) (E_sbX hN (d + 18)) (fun _ => rfl)
theorem E_clS2 (hN : 1000 ≤ N) (d : Nat) : SPX T s (clS2 n xs N (d + 43)) (fun a w => thenR (sumD T s 6 a w) (tlQ T s)) :=
  SPX_bind (GP_sumD 6).ln (E_sum0 hN (d + 43) (by omega)) (E_clT1 hN d) (fun _ => rfl)
noncomputable def clS (n : Nat) (xs : Nat → Int32) (N K : Nat) (M : mmM) : Option mmR := (mm_aI (mm_E n xs N K 76 [.ref 17] M)).bind fun p3 => if p3.1 = (33 : Int32) then clS1 n xs N K p3.2 else if p3.1 = (40 : Int32) then clS1 n xs N K p3.2 else clS2 n xs N K p3.2
theorem E_clS (hN : 1000 ≤ N) (d : Nat) : SPX T s (clS n xs N (d + 43)) (clinQ T s) := by
  intro M a w hT ha has hw hwl
  have k1 := sk_ge T s a
  have k2 := sk_le (T := T) has
  obtain ⟨M1, e1, x1⟩ := E_lookX (n := n) (xs := xs) (N := N) hN (d + 42) hT ha has
  unfold clS clinQ
  rw [e1, ra_I, Option.bind_some]
  dsimp only
  by_cases c : cu T s (sk T s a) = 33 ∨ cu T s (sk T s a) = 40
  · rw [ite_or c, if_pos c]
    obtain ⟨u1, u2⟩ := E_clS1 (n := n) (xs := xs) (N := N) hN d M1 (sk T s a) w (hT.xt x1) x1.pl k2 (hw.xt x1) (by omega)
    refine ⟨fun p e => ?_, fun a' w' e => ?_⟩
    · obtain ⟨M5, m1, m2, m3⟩ := u1 p e
      exact ⟨M5, m1, x1.lx.tr m2, m3⟩
    · obtain ⟨M5, m1, m2, m3, m4⟩ := u2 a' w' e
      exact ⟨M5, m1, x1.lx.tr m2, m3, m4⟩
  · rw [if_neg c, if_neg (fun q => c (Or.inl q)), if_neg (fun q => c (Or.inr q))]
    obtain ⟨u1, u2⟩ := E_clS2 (n := n) (xs := xs) (N := N) hN d M1 (sk T s a) w (hT.xt x1) x1.pl k2 (hw.xt x1) (by omega)
    refine ⟨fun p e => ?_, fun a' w' e => ?_⟩
    · obtain ⟨M5, m1, m2, m3⟩ := u1 p e
      exact ⟨M5, m1, x1.lx.tr m2, m3⟩
    · obtain ⟨M5, m1, m2, m3, m4⟩ := u2 a' w' e
      exact ⟨M5, m1, x1.lx.tr m2, m3, m4⟩
noncomputable def clR (n : Nat) (xs : Nat → Int32) (N K : Nat) (M : mmM) : Option mmR := (mm_aI (mm_E n xs N K 79 [.ref 17, .int (58 : Int32)] M)).bind fun p1 => if p1.1 = 0 then some (some (.int (0 : Int32)), p1.2) else clS n xs N K p1.2
theorem E_clauX (hN : 1000 ≤ N) (d : Nat) : SPX T s (fun M => mm_E n xs N (d + 44) 20 [.ref 23] M) (clauQ T s) :=
  SPX_bind (LN_must 121 (by decide)) (E_mustX hN (d + 41) 121) (e2 := clR n xs N (d + 43)) (SPX_bind (LN_must 58 (by decide)) (E_mustX hN (d + 41) 58) (E_clS hN d) (fun _ => rfl)) (fun M => u_X3_isClauseNext n xs N (d + 43) M)
end LY
