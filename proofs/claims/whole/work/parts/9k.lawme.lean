section ME2
variable {n : Nat} {xs : Nat → Int32} {N : Nat} {T : Nat → Int32} {s t D : Nat}
theorem E_sumSM (hN : 1000 ≤ N) (d : Nat) (hD : D ≤ 6) {sub : Option (Nat → List Int32 → RL)} (h6 : sub = none → D = 6) (hs : ∀ f, sub = some f → D < 6 ∧ GP s 40 false f ∧ SPM T s t (D + 1) (fun M => mm_E n xs N (d + 3) 197 [.ref 60] M) f) : SPM T s t D (fun M => mm_E n xs N (d + 6) 197 [.ref 60] M) (sumP T s sub) := by
  have g1 : GP s 40 false (atomP T s sub) := GP_atom (fun f e => (hs f e).2.1) (by omega)
  have g2 : GP s 41 false (termP T s sub) := GP_then g1 (by decide) (fun _ => rfl) (fun _ => rfl) (Nat.le_refl _) (by omega)
  exact E_sumM hN (d + 3) g2.ln (E_termM hN (d + 2) g1.ln (E_atomM hN d hD h6 (fun f e => ⟨(hs f e).1, (hs f e).2.1.ln, (hs f e).2.2⟩)))
theorem E_sumDM (hN : 1000 ≤ N) : ∀ (g K : Nat), g ≤ 6 → 3 * g + 6 ≤ K → SPM T s t (6 - g) (fun M => mm_E n xs N K 197 [.ref 60] M) (sumD T s g)
  | 0, K, hg, hK => by
    obtain ⟨d, rfl⟩ : ∃ d, K = d + 6 := ⟨K - 6, by omega⟩
    exact E_sumSM hN d (by omega) (fun _ => rfl) (fun f e => by cases e)
  | g + 1, K, hg, hK => by
    obtain ⟨d, rfl⟩ : ∃ d, K = d + 6 := ⟨K - 6, by omega⟩
    have ih := E_sumDM hN g (d + 3) (by omega) (by omega)
    refine E_sumSM hN d (by omega) (fun q => by cases q) (fun f q => ?_)
    cases q
    refine ⟨by omega, (GP_sumD g).mono (by omega), ?_⟩
    rw [show 6 - (g + 1) + 1 = 6 - g by omega]
    exact ih
theorem E_isSg (d : Nat) (M : mmM) (c : Int32) : mm_E n xs N (d + 1) 198 [.int c] M = some (some (.int (mb (isC c))), M) := by
  rw [u_X12_isSign]
  unfold isC
  by_cases a1 : c = 61
  · subst a1; rfl
  rw [if_neg a1]
  by_cases a2 : c = 60
  · subst a2; rfl
  rw [if_neg a2]
  by_cases a3 : c = 62
  · subst a3; rfl
  rw [if_neg a3, beq_eq_false_iff_ne.mpr a1, beq_eq_false_iff_ne.mpr a2, beq_eq_false_iff_ne.mpr a3]
  rfl
theorem isC_c {c : Int32} (h : isC c = true) : c = 61 ∨ c = 60 ∨ c = 62 := by
  unfold isC at h
  rcases Bool.or_eq_true _ _ |>.mp h with q | q
  · rcases Bool.or_eq_true _ _ |>.mp q with q | q
    · exact Or.inl (eq_of_beq q)
    · exact Or.inr (Or.inl (eq_of_beq q))
  · exact Or.inr (Or.inr (eq_of_beq q))
/-- at a fault nothing more is read -/
def SPF (t : Nat) (e : mmM → Option mmR) : Prop := ∀ M p k, MFl t M p k → p ≤ 240 → ∃ M1, e M = some (none, M1) ∧ LMf t M M1 ∧ MFl t M1 p k
theorem E_cmpMF (d : Nat) : SPF t (fun M => mm_E n xs N (d + 2) 199 [.ref 60] M) := by
  intro M p k h hp
  dsimp only
  rw [u_X12_compare, if_neg (h.ne hp), E_isSg d, ra_I, Option.bind_some]
  dsimp only
  rw [if_pos (by decide), E_bad2 d (h.ne hp), ra_V, Option.bind_some]
  obtain ⟨b1, b2, b3, b4⟩ := h
  exact ⟨_, rfl, LMf.w4, by rw [I_s, if_pos rfl]; exact b1, by rw [I_s, if_neg (by decide)]; exact b2, b3, by rw [I_wn (by decide)]; exact b4⟩
theorem E_cmpM (hN : 1000 ≤ N) (d g : Nat) (hA : SPM T s t D (fun M => mm_E n xs N (d + 2) 197 [.ref 60] M) (sumD T s g)) : SPM T s t D (fun M => mm_E n xs N (d + 3) 199 [.ref 60] M) (cmpP T s g) := by
  intro M a w h
  have k1 := sk_ge T s a
  have k2 := sk_le (T := T) h.2.2.1
  have hs240 := h.1.1
  obtain ⟨M1, e1, x1, h1⟩ := E_lookS (n := n) (xs := xs) (N := N) hN d h
  have hw0 := h.2.2.2.2.2.2.2.2
  dsimp only
  unfold cmpP
  rw [u_X12_compare, if_pos h.2.2.2.1, e1, ra_I, Option.bind_some]
  dsimp only
  rw [E_isSg (d + 1), ra_I, Option.bind_some]
  dsimp only
  cases hc : isC (cu T s (sk T s a)) with
  | false =>
    rw [if_pos (show mb false = 0 by decide), if_neg (by decide), E_badS (d + 1) h1, ra_V, Option.bind_some]
    exact SM1.l (x1.tr LMf.w4) h1.bad (by omega) k2
  | true =>
    have hlt := cu_lt (T := T) (s := s) (a := sk T s a) rfl (isC_t hc).1
    rw [if_neg (show ¬ mb true = 0 by decide), if_pos rfl, h1.2.1, nI_1]
    have base : ∀ (o : Int32), TKn o 0 (-(cu T s (sk T s a))) → SM1 T s t D M a w ((mm_aV (mm_E n xs N (d + 2) 197 [.ref 60] (mm_wI M1 60 3 (nI (sk T s a + 1))))).bind fun p4 => (mm_aV (mm_E n xs N (d + 2) 190 [.ref 60, .int o, .int (0 : Int32)] p4)).bind fun p5 => some (none, p5)) (thenR (sumD T s g (sk T s a + 1) w) (fun a' w' => .inr (a', w' ++ [-(cu T s (sk T s a))]))) := by
      intro o ho
      have h2 := h1.st hlt
      obtain ⟨q1, q2⟩ := hA _ _ _ h2
      dsimp only at q1 q2
      cases hr : sumD T s g (sk T s a + 1) w with
      | inl p =>
        obtain ⟨M3, k, e3, x3, h3, b1, b2⟩ := q1 p hr
        obtain ⟨M4, e4, x4, h4⟩ := E_putF (n := n) (xs := xs) (N := N) (d + 1) o 0 h3 (by omega)
        rw [e3, ra_V, Option.bind_some, e4, ra_V, Option.bind_some]
        exact SM1.l (((x1.tr LMf.w3).tr x3).tr x4) h4 (by omega) b2
      | inr v =>
        obtain ⟨b, w1⟩ := v
        obtain ⟨M3, e3, x3, h3⟩ := q2 b w1 hr
        obtain ⟨l1, l2⟩ := (GP_sumD (T := T) (s := s) g).ln (sk T s a + 1) w b w1 (by omega) hr
        obtain ⟨M4, e4, x4, h4⟩ := E_putM (n := n) (xs := xs) (N := N) (d + 1) h3 (by omega) ho
        rw [e3, ra_V, Option.bind_some, e4, ra_V, Option.bind_some]
        exact SM1.r (((x1.tr LMf.w3).tr x3).tr x4) h4
    rcases isC_c hc with q | q | q
    · have := base 6 (by rw [q]; exact Or.inr (Or.inr (by decide)))
      rw [q] at this ⊢
      simp only [if_pos (show (61 : Int32) = 61 from rfl)]
      exact this
    · have := base 7 (by rw [q]; exact Or.inr (Or.inr (by decide)))
      rw [q] at this ⊢
      simp only [if_neg (show ¬ (60 : Int32) = 61 by decide), if_pos (show (60 : Int32) = 60 from rfl)]
      exact this
    · have := base 8 (by rw [q]; exact Or.inr (Or.inr (by decide)))
      rw [q] at this ⊢
      simp only [if_neg (show ¬ (62 : Int32) = 61 by decide), if_neg (show ¬ (62 : Int32) = 60 by decide)]
      exact this
theorem aV_bind {x : Option mmR} {f : mmM → Option mmR} {g : mmM → Option mmR} : (mm_aV ((mm_aV x).bind f)).bind g = (mm_aV x).bind (fun p => (mm_aV (f p)).bind g) := by
  cases mm_aV x with
  | none => rfl
  | some y => rfl
theorem SPM_bind {e e1 e2 : mmM → Option mmR} {P Q : Nat → List Int32 → RL} (hl : LN s P) (h1 : SPM T s t D e1 P) (h2 : SPM T s t D e2 Q) (hF : SPF t e2) (hr : ∀ M, e M = (mm_aV (e1 M)).bind e2) : SPM T s t D e (fun a w => thenR (P a w) Q) := by
  intro M a w h
  have hs240 := h.1.1
  obtain ⟨q1, q2⟩ := h1 M a w h
  rw [hr]
  dsimp only
  cases hp : P a w with
  | inl p =>
    obtain ⟨M3, k, e3, x3, h3, b1, b2⟩ := q1 p hp
    obtain ⟨M4, e4, x4, h4⟩ := hF M3 p k h3 (by omega)
    rw [e3, ra_V, Option.bind_some, e4]
    exact SM1.l (x3.tr x4) h4 b1 b2
  | inr v =>
    obtain ⟨b, w1⟩ := v
    obtain ⟨M3, e3, x3, h3⟩ := q2 b w1 hp
    obtain ⟨l1, l2⟩ := hl a w b w1 h.2.2.1 hp
    rw [e3, ra_V, Option.bind_some]
    exact (h2 M3 b w1 h3).pre x3 l2.2
theorem SPM_id {e e1 : mmM → Option mmR} {P : Nat → List Int32 → RL} (h1 : SPM T s t D e1 P) (hr : ∀ M, e M = (mm_aV (e1 M)).bind fun p => some (none, p)) : SPM T s t D e P := by
  intro M a w h
  obtain ⟨q1, q2⟩ := h1 M a w h
  rw [hr]
  refine ⟨fun p q => ?_, fun a' w' q => ?_⟩
  · obtain ⟨M3, k, e3, x3⟩ := q1 p q
    rw [e3, ra_V, Option.bind_some]
    exact ⟨M3, k, rfl, x3⟩
  · obtain ⟨M3, e3, x3⟩ := q2 a' w' q
    rw [e3, ra_V, Option.bind_some]
    exact ⟨M3, rfl, x3⟩
theorem SPF_id {e e1 : mmM → Option mmR} (h1 : SPF t e1) (hr : ∀ M, e M = (mm_aV (e1 M)).bind fun p => some (none, p)) : SPF t e := by
  intro M p k h hp
  obtain ⟨M1, e1, x1⟩ := h1 M p k h hp
  rw [hr, e1, ra_V, Option.bind_some]
  exact ⟨M1, rfl, x1⟩
theorem SPF_bind {e e1 e2 : mmM → Option mmR} (h1 : SPF t e1) (h2 : SPF t e2) (hr : ∀ M, e M = (mm_aV (e1 M)).bind e2) : SPF t e := by
  intro M p k h hp
  obtain ⟨M1, e1, x1, y1⟩ := h1 M p k h hp
  obtain ⟨M2, e2, x2, y2⟩ := h2 M1 p k y1 hp
  rw [hr, e1, ra_V, Option.bind_some, e2]
  exact ⟨M2, rfl, x1.tr x2, y2⟩
end ME2
