section MG
variable {n : Nat} {xs : Nat → Int32} {N : Nat} {T : Nat → Int32} {s t D : Nat}
theorem E_truM (hN : 1000 ≤ N) (B : Nat) (hB : 4 ≤ B) {P : Nat → List Int32 → RL} (hL : LN s P) (hU : ∀ K, B ≤ K → SPM T s t D (fun M => mm_E n xs N K 200 [.ref 60] M) P) (K : Nat) (hK : B + 1 ≤ K) : SPM T s t D (fun M => (mm_aV (mm_E n xs N K 200 [.ref 60] M)).bind fun p => mm_E n xs N K 201 [.ref 60] p) (truP T s P) := by
  obtain ⟨d, rfl⟩ : ∃ d, K = d + 3 := ⟨K - 3, by omega⟩
  exact SPM_bind hL (hU (d + 3) (by omega)) (E_goOnAndM hN d hL (hU (d + 2) (by omega))) (E_goOnAndF (d + 2)) (fun _ => rfl)
theorem LN_tru {P : Nat → List Int32 → RL} (hL : LN s P) : LN s (truP T s P) := by
  intro a w a' w' ha e
  unfold truP at e
  cases hr : P a w with
  | inl p => rw [hr] at e; cases e
  | inr v =>
    obtain ⟨b, w1⟩ := v
    obtain ⟨l1, l2⟩ := hL a w b w1 ha hr
    rw [hr] at e
    obtain ⟨m1, m2⟩ := LN_loop (T := T) hL (c1 := 38) (c2 := 38) (by decide) 240 b w1 a' w' l1 e
    exact ⟨m1, by omega⟩
theorem E_orM (hN : 1000 ≤ N) (B : Nat) (hB : 4 ≤ B) {P : Nat → List Int32 → RL} (hL : LN s P) (hU : ∀ K, B ≤ K → SPM T s t D (fun M => mm_E n xs N K 200 [.ref 60] M) P) (K : Nat) (hK : B + 2 ≤ K) : SPM T s t D (fun M => mm_E n xs N K 202 [.ref 60] M) (orP T s P) := by
  obtain ⟨d, rfl⟩ : ∃ d, K = d + 3 := ⟨K - 3, by omega⟩
  exact E_goOnOrM hN d (LN_tru hL) (E_truM hN B hB hL hU (d + 2) (by omega))
theorem E_andM (hN : 1000 ≤ N) (B : Nat) (hB : 4 ≤ B) {P : Nat → List Int32 → RL} (hL : LN s P) (hU : ∀ K, B ≤ K → SPM T s t D (fun M => mm_E n xs N K 200 [.ref 60] M) P) (K : Nat) (hK : B + 1 ≤ K) : SPM T s t D (fun M => mm_E n xs N K 201 [.ref 60] M) (andP T s P) := by
  obtain ⟨d, rfl⟩ : ∃ d, K = d + 3 := ⟨K - 3, by omega⟩
  exact E_goOnAndM hN d hL (hU (d + 2) (by omega))
theorem E_conM (hN : 1000 ≤ N) (B : Nat) (hB : 4 ≤ B) {P : Nat → List Int32 → RL} (hL : LN s P) (hU : ∀ K, B ≤ K → SPM T s t D (fun M => mm_E n xs N K 200 [.ref 60] M) P) (K : Nat) (hK : B + 3 ≤ K) : SPM T s t D (fun M => mm_E n xs N K 203 [.ref 60] M) (conP T s P) := by
  obtain ⟨d, rfl⟩ : ∃ d, K = d + 1 := ⟨K - 1, by omega⟩
  obtain ⟨d', hd⟩ : ∃ d', d = d' + 1 := ⟨d - 1, by omega⟩
  refine SPM_bind (LN_tru hL) (E_truM hN B hB hL hU d (by omega)) (SPM_id (E_orM hN B hB hL hU d (by omega)) (fun _ => rfl)) (SPF_id (by rw [hd]; exact E_goOnOrF d') (fun _ => rfl)) (fun M => ?_)
  rw [u_X12_condition, aV_bind]
theorem E_unitSM (hN : 1000 ≤ N) (d g : Nat) (hD : D ≤ 6) {sub : Option (Nat → List Int32 → RL)} (h6 : sub = none → D = 6) (hs : ∀ u, sub = some u → D < 6 ∧ LN s u ∧ LN s (conP T s u) ∧ SPM T s t (D + 1) (fun M => mm_E n xs N (d + 3) 200 [.ref 60] M) u ∧ SPM T s t (D + 1) (fun M => mm_E n xs N (d + 3) 203 [.ref 60] M) (conP T s u)) (hS : SPM T s t D (fun M => mm_E n xs N (d + 3) 197 [.ref 60] M) (sumD T s g)) (hC : SPM T s t D (fun M => mm_E n xs N (d + 3) 199 [.ref 60] M) (cmpP T s g)) : SPM T s t D (fun M => mm_E n xs N (d + 4) 200 [.ref 60] M) (unitP T s sub g) := by
  intro M a w h
  have k1 := sk_ge T s a
  have k2 := sk_le (T := T) h.2.2.1
  have hs240 := h.1.1
  obtain ⟨M1, e1, x1, h1⟩ := E_lookS (n := n) (xs := xs) (N := N) hN (d + 1) h
  have hw0 := h.2.2.2.2.2.2.2.2
  dsimp only
  unfold unitP
  rw [u_X12_unit, e1, ra_I, Option.bind_some]
  dsimp only
  by_cases c1 : cu T s (sk T s a) = 33
  · have hlt := cu_lt c1 (by decide)
    rw [if_pos c1, if_pos c1]
    cases sub with
    | none =>
      have h6' := h6 rfl
      subst h6'
      obtain ⟨M2, e2, x2, h2⟩ := E_opens0 (n := n) (xs := xs) (N := N) (d + 1) h1
      rw [e2, ra_V, Option.bind_some, if_neg (h2.ne (by omega))]
      exact SM1.l (x1.tr x2) h2 (by omega) k2
    | some u =>
      obtain ⟨hD6, hL, _, hU, _⟩ := hs u rfl
      obtain ⟨M2, e2, x2, h2⟩ := E_opens1 (n := n) (xs := xs) (N := N) (d + 2) h1 hD6 hlt
      rw [e2, ra_V, Option.bind_some, if_pos h2.2.2.2.1]
      obtain ⟨q1, q2⟩ := hU _ _ _ h2
      dsimp only at q1 q2 ⊢
      cases hr : u (sk T s a + 1) w with
      | inl p =>
        obtain ⟨M3, k, e3, x3, h3, b1, b2⟩ := q1 p hr
        obtain ⟨M4, e4, x4, h4⟩ := E_putF (n := n) (xs := xs) (N := N) (d + 2) 9 0 h3 (by omega)
        rw [e3, ra_V, Option.bind_some, e4, ra_V, Option.bind_some]
        exact SM1.l ((((x1.tr x2).tr x3).tr x4).tr LMf.w5) h4.w5 (by omega) b2
      | inr v =>
        obtain ⟨b, w1⟩ := v
        obtain ⟨M3, e3, x3, h3⟩ := q2 b w1 hr
        obtain ⟨l1, l2⟩ := hL (sk T s a + 1) w b w1 (by omega) hr
        obtain ⟨M4, e4, x4, h4⟩ := E_putM (n := n) (xs := xs) (N := N) (d + 2) (o := 9) (v := 0) (sg := -33) h3 (by omega) (Or.inr (Or.inr (by decide)))
        rw [e3, ra_V, Option.bind_some, e4, ra_V, Option.bind_some, h4.2.2.2.2.1, show nI (D + 1) - (1 : Int32) = nI D from by rw [show (1 : Int32) = nI 1 from rfl, pk_sub (by omega), show D + 1 - 1 = D by omega]]
        exact SM1.r ((((x1.tr x2).tr x3).tr x4).tr LMf.w5) (h4.d5 D)
  rw [if_neg c1, if_neg c1]
  by_cases c2 : cu T s (sk T s a) = 40
  · have hlt := cu_lt c2 (by decide)
    rw [if_pos c2, if_pos c2]
    cases sub with
    | none =>
      have h6' := h6 rfl
      subst h6'
      obtain ⟨M2, e2, x2, h2⟩ := E_opens0 (n := n) (xs := xs) (N := N) (d + 1) h1
      rw [e2, ra_V, Option.bind_some, if_neg (h2.ne (by omega))]
      exact SM1.l (x1.tr x2) h2 (by omega) k2
    | some u =>
      obtain ⟨hD6, _, hL, _, hF⟩ := hs u rfl
      obtain ⟨M2, e2, x2, h2⟩ := E_opens1 (n := n) (xs := xs) (N := N) (d + 2) h1 hD6 hlt
      rw [e2, ra_V, Option.bind_some, if_pos h2.2.2.2.1]
      obtain ⟨q1, q2⟩ := hF M2 (sk T s a + 1) w h2
      dsimp only at q1 q2 ⊢
      cases hr : conP T s u (sk T s a + 1) w with
      | inl p =>
        obtain ⟨M3, k, e3, x3, h3, b1, b2⟩ := q1 p hr
        obtain ⟨M4, e4, x4, h4⟩ := E_closesF (n := n) (xs := xs) (N := N) (d + 2) 41 h3 (by omega)
        rw [e3, ra_V, Option.bind_some, e4, ra_V, Option.bind_some]
        exact SM1.l (((x1.tr x2).tr x3).tr x4) h4 (by omega) b2
      | inr v =>
        obtain ⟨b, w1⟩ := v
        obtain ⟨M3, e3, x3, h3⟩ := q2 b w1 hr
        obtain ⟨u1, u2⟩ := E_closes (n := n) (xs := xs) (N := N) hN d (c := 41) (by decide) h3
        have hgr := (hL (sk T s a + 1) w b w1 (by omega) hr).2
        rw [e3, ra_V, Option.bind_some]
        refine ⟨fun p e => ?_, fun a' w' e => ?_⟩
        · obtain ⟨M4, e4, x4, h4, b1, b2⟩ := u1 p e
          rw [e4, ra_V, Option.bind_some]
          exact ⟨M4, _, rfl, ((x1.tr x2).tr x3).tr x4, h4, by omega, b2⟩
        · obtain ⟨M4, e4, x4, h4⟩ := u2 a' w' e
          rw [e4, ra_V, Option.bind_some]
          exact ⟨M4, rfl, ((x1.tr x2).tr x3).tr x4, h4⟩
  rw [if_neg c2, if_neg c2]
  obtain ⟨q1, q2⟩ := hS M1 (sk T s a) w h1
  dsimp only at q1 q2 ⊢
  cases hr : sumD T s g (sk T s a) w with
  | inl p =>
    obtain ⟨M3, k, e3, x3, h3, b1, b2⟩ := q1 p hr
    rw [e3, ra_V, Option.bind_some, if_neg (h3.ne (by omega))]
    exact SM1.l (x1.tr x3) h3 (by omega) b2
  | inr v =>
    obtain ⟨b, w1⟩ := v
    obtain ⟨M3, e3, x3, h3⟩ := q2 b w1 hr
    obtain ⟨l1, l2⟩ := (GP_sumD (T := T) (s := s) g).ln (sk T s a) w b w1 (by omega) hr
    rw [e3, ra_V, Option.bind_some, if_pos h3.2.2.2.1]
    exact (SPM_id hC (fun _ => rfl) M3 b w1 h3).pre (x1.tr x3) (by omega)
theorem E_cmpKM (hN : 1000 ≤ N) (g K : Nat) (hg : g ≤ 6) (hK : 3 * g + 7 ≤ K) : SPM T s t (6 - g) (fun M => mm_E n xs N K 199 [.ref 60] M) (cmpP T s g) := by
  obtain ⟨d, rfl⟩ : ∃ d, K = d + 3 := ⟨K - 3, by omega⟩
  exact E_cmpM hN d g (E_sumDM hN g (d + 2) hg (by omega))
theorem E_unitDM (hN : 1000 ≤ N) : ∀ (g K : Nat), g ≤ 6 → 4 * g + 9 ≤ K → SPM T s t (6 - g) (fun M => mm_E n xs N K 200 [.ref 60] M) (unitD T s g)
  | 0, K, hg, hK => by
    obtain ⟨d, rfl⟩ : ∃ d, K = d + 4 := ⟨K - 4, by omega⟩
    exact E_unitSM hN d 0 (by omega) (fun _ => rfl) (fun f e => by cases e) (E_sumDM hN 0 (d + 3) hg (by omega)) (E_cmpKM hN 0 (d + 3) hg (by omega))
  | g + 1, K, hg, hK => by
    obtain ⟨d, rfl⟩ : ∃ d, K = d + 4 := ⟨K - 4, by omega⟩
    have ih := E_unitDM hN g
    refine E_unitSM hN d (g + 1) (by omega) (fun q => by cases q) (fun f q => ?_) (E_sumDM hN (g + 1) (d + 3) hg (by omega)) (E_cmpKM hN (g + 1) (d + 3) hg (by omega))
    cases q
    rw [show 6 - (g + 1) + 1 = 6 - g by omega]
    exact ⟨by omega, (GP_unitD g).ln, (GP_con (GP_unitD g) (by omega)).ln, ih (d + 3) (by omega) (by omega), E_conM hN (4 * g + 9) (by omega) (GP_unitD g).ln (fun K' hK' => ih K' (by omega) hK') (d + 3) (by omega)⟩
end MG
