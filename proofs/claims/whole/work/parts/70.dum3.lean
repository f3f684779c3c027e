/-! a duchy is read, by the model: clauses, all -/
def MRw (M : mmM) (m : Nat → Nat) (v : Nat → Int32) : Prop := (∀ kd, kd < 3 → ∀ x, x < (if kd = 0 then 4 else m kd * pl_w kd) → mm_I M (71 + kd) x = v (pl_o kd + x)) ∧ mm_I M 60 20 = nI (m 1) ∧ mm_I M 60 21 = nI (m 2)
section DO3
variable {n : Nat} {xs : Nat → Int32} {N : Nat} {M M' M1 M2 P : mmM} {T : Nat → Int32} {s a b kd p : Nat} {m : Nat → Nat} {v : Nat → Int32}
theorem itL_v {g : Nat} : ∀ (f a fnd : Nat) (v : Nat → Int32) (q : Nat × (Nat → Int32)), itL T s kd g f a fnd v = .inr q → ∀ x, (x < g ∨ g + pl_w kd ≤ x) → q.2 x = v x
  | 0, a, fnd, v, q, h => by cases h; exact fun _ _ => rfl
  | f + 1, a, fnd, v, q, h => by
    intro x hx
    rw [itL_s] at h
    cases e : itN kd (cu T s (sk T s a)) with
    | none => rw [e] at h; cases h; rfl
    | some k =>
      have ef := itF_lt (pl_w kd) 0 k e
      rw [e] at h
      dsimp only at h
      split at h
      · cases h
      · cases e2 : vlP T s kd k (sk T s a + 1) with
        | inl p => rw [e2] at h; cases h
        | inr r =>
          rw [e2] at h
          rw [itL_v f r.1 _ _ q h x hx]
          show (if x = g + k then nI r.2 else v x) = v x
          rw [if_neg (by omega)]
/-- behind a clause -/
theorem du_tail (hN : 1000 ≤ N) (d f : Nat) (y : Int32) (hT : MTp P T s) (h3 : mm_I P 60 3 = nI p) (hp : p ≤ s) : ∃ Ma Mb, ((mm_aI (mm_E n xs N (d + 2) 187 [.ref 60] P)).bind fun p8 => (if p8.1 = (59 : Int32) then (if (1 : Int32) = 0 then (lp_X12_readDuchy n xs N (d + 2) f 49 [some (.ref 60), some (.int y), some (.int (1 : Int32)), none] [] (mm_wI p8.2 60 3 ((mm_I p8.2 60 3) + (0 : Int32)))) else (lp_X12_readDuchy n xs N (d + 2) f 49 [some (.ref 60), some (.int y), some (.int (1 : Int32)), none] [] (mm_wI p8.2 60 3 ((mm_I p8.2 60 3) + (1 : Int32))))) else (if (0 : Int32) = 0 then (lp_X12_readDuchy n xs N (d + 2) f 49 [some (.ref 60), some (.int y), some (.int (0 : Int32)), none] [] (mm_wI p8.2 60 3 ((mm_I p8.2 60 3) + (0 : Int32)))) else (lp_X12_readDuchy n xs N (d + 2) f 49 [some (.ref 60), some (.int y), some (.int (0 : Int32)), none] [] (mm_wI p8.2 60 3 ((mm_I p8.2 60 3) + (1 : Int32))))))) = (if cu T s (sk T s p) = 59 then lp_X12_readDuchy n xs N (d + 2) f 49 [some (.ref 60), some (.int y), some (.int (1 : Int32)), none] [] Ma else lp_X12_readDuchy n xs N (d + 2) f 49 [some (.ref 60), some (.int y), some (.int (0 : Int32)), none] [] Mb) ∧ MT P Ma (sk T s p + 1) ∧ MT P Mb (sk T s p) := by
  obtain ⟨M1, e1, x1⟩ := E_lookM (n := n) (xs := xs) (N := N) hN d hT h3 hp
  refine ⟨mm_wI M1 60 3 (nI (sk T s p + 1)), mm_wI M1 60 3 (nI (sk T s p)), ?_, x1.tr MT.w, x1.tr MT.w⟩
  rw [e1, ra_I, Option.bind_some]
  dsimp only
  by_cases q : cu T s (sk T s p) = 59
  · rw [if_pos q, if_pos q, if_neg (show ¬ (1 : Int32) = 0 by decide), x1.pl, nI_1]
  · rw [if_neg q, if_neg q, if_pos (show (0 : Int32) = 0 from rfl), x1.pl, Int32.add_zero]
theorem IF.mt (h : IF T s M p) (h4 : mm_I M 60 4 = -1) (hs : s ≤ 240) (g : MT M M1 p) : IF T s M1 p := by
  obtain ⟨h1, h2⟩ := h
  refine ⟨h1, Or.inr ⟨by rw [g.q (by decide)]; exact h4, g.pl, ?_⟩⟩
  rcases h2 with e | ⟨-, -, e⟩
  · rw [h4] at e
    exact absurd e.symm (nI_ne1 (by omega))
  · exact e
/-- the end, where it is wrong -/
theorem du_bad (hN : 1000 ≤ N) (d f : Nat) (y : Int32) (hT : MTp M T s) (h : IF T s M p) : ∃ M1, lp_X12_readDuchy n xs N (d + 2) (f + 1) 49 [some (.ref 60), some (.int y), some (.int (0 : Int32)), none] [] M = some (some (.int (nI p)), M1) ∧ DMf M M1 := by
  have hs := hT.1
  obtain ⟨hp, h2⟩ := h
  rcases h2 with e | ⟨h4, h3, hk, c1, c2⟩
  · refine ⟨M, ?_, DMf.rf⟩
    rw [lu_X12_readDuchy_49, if_pos (show (0 : Int32) = 0 from rfl), e, if_neg (nI_ne1 (by omega))]
  · obtain ⟨M1, e1, x1⟩ := E_lookM (n := n) (xs := xs) (N := N) hN d hT h3 hp
    rw [hk] at e1 x1
    refine ⟨mm_wI M1 60 4 (nI p), ?_, (x1.mw.tr MW.w4).dm⟩
    rw [lu_X12_readDuchy_49, if_pos (show (0 : Int32) = 0 from rfl), if_pos h4, e1, ra_I, Option.bind_some]
    dsimp only
    rw [if_neg c2, E_bad (d + 1) ((x1.q (by decide)).trans h4) x1.pl, ra_V, Option.bind_some, I_s, if_pos rfl]
/-- the end, where nothing was wrong -/
theorem du_end (hN : 1000 ≤ N) (d f : Nat) (y : Int32) {nc nm : Nat} (hT : MTp M T s) (h4 : mm_I M 60 4 = -1) (h3 : mm_I M 60 3 = nI p) (hk : sk T s p = p) (hp : p ≤ s) (k1 : mm_I M 60 20 = nI nc) (k2 : mm_I M 60 21 = nI nm) (l1 : nc < 100) (l2 : nm < 100) : ∃ M1, lp_X12_readDuchy n xs N (d + 2) (f + 1) 49 [some (.ref 60), some (.int y), some (.int (0 : Int32)), none] [] M = some (some (.int (if cu T s p = -1 ∧ 0 < nc ∧ 0 < nm then -1 else nI p)), M1) ∧ MW M M1 := by
  have hs := hT.1
  obtain ⟨M1, e1, x1⟩ := E_lookM (n := n) (xs := xs) (N := N) hN d hT h3 hp
  rw [hk] at e1 x1
  have g4 : mm_I M1 60 4 = -1 := (x1.q (by decide)).trans h4
  have g20 : mm_I M1 60 20 = nI nc := (x1.q (by decide)).trans k1
  have g21 : mm_I M1 60 21 = nI nm := (x1.q (by decide)).trans k2
  have eb := E_bad (n := n) (xs := xs) (N := N) (d + 1) g4 x1.pl
  by_cases q : cu T s p = -1 ∧ 0 < nc ∧ 0 < nm
  · refine ⟨M1, ?_, x1.mw⟩
    rw [if_pos q, lu_X12_readDuchy_49, if_pos (show (0 : Int32) = 0 from rfl), if_pos h4, e1, ra_I, Option.bind_some]
    dsimp only
    rw [if_pos q.1, g20, if_neg (nI_ne0 q.2.1 (by omega)), g21, if_neg (nI_ne0 q.2.2 (by omega)), g4]
  · refine ⟨mm_wI M1 60 4 (nI p), ?_, x1.mw.tr MW.w4⟩
    rw [if_neg q, lu_X12_readDuchy_49, if_pos (show (0 : Int32) = 0 from rfl), if_pos h4, e1, ra_I, Option.bind_some]
    dsimp only
    by_cases w : cu T s p = -1
    · rw [if_pos w, g20]
      by_cases w1 : nc = 0
      · rw [w1, if_pos (show nI 0 = (0 : Int32) from rfl), eb, ra_V, Option.bind_some, I_s, if_pos rfl]
      · rw [if_neg (nI_ne0 (by omega) (by omega)), g21]
        have w2 : nm = 0 := by
          apply Decidable.byContradiction
          intro w3
          exact q ⟨w, by omega, by omega⟩
        rw [w2, if_pos (show nI 0 = (0 : Int32) from rfl), eb, ra_V, Option.bind_some, I_s, if_pos rfl]
    · rw [if_neg w, eb, ra_V, Option.bind_some, I_s, if_pos rfl]
theorem kdN_eq (c : Int32) : kdN c = if (115 : Int32) = c then some 0 else if (107 : Int32) = c then some 1 else if (109 : Int32) = c then some 2 else none := rfl
/-- rows, behind one more clause -/
theorem MRw.cl (hl : kd < 3) (hm : ∀ k, k < 3 → m k ≤ pl_m k) (hi : m kd < pl_m kd) (hR : MRw M m v) {f a fnd : Nat} {q : Nat × (Nat → Int32)} (e : itL T s kd (plK kd (m kd)) f a fnd (dfl kd (m kd) v) = .inr q) (hK : KR kd M M1) (hQ : RQ M1 kd (m kd) q.2) (hx : ∀ x, (x < m kd * pl_w kd ∨ m kd * pl_w kd + pl_w kd ≤ x) → mm_I M1 (71 + kd) x = mm_I M (71 + kd) x) (m0 : kd ≠ 0 ∨ m 0 = 0) : ∀ k, k < 3 → ∀ x, x < (if k = 0 then 4 else upM m kd (m kd + 1) k * pl_w k) → mm_I M1 (71 + k) x = q.2 (pl_o k + x) := by
  intro k hk x hxl
  have iv := itL_v _ _ _ _ _ e
  have old : ∀ y, (y < plK kd (m kd) ∨ plK kd (m kd) + pl_w kd ≤ y) → q.2 y = v y := fun y hy => by
    rw [iv y hy]
    show (if plK kd (m kd) ≤ y ∧ y < plK kd (m kd) + pl_w kd then _ else v y) = v y
    rw [if_neg (by omega)]
  have hp : plK kd (m kd) = pl_o kd + m kd * pl_w kd := rfl
  by_cases w : k = kd
  · subst w
    have hxl' : x < (m k + 1) * pl_w k ∨ (k = 0 ∧ x < 4) := by
      by_cases k0 : k = 0
      · right; rw [if_pos k0] at hxl; exact ⟨k0, hxl⟩
      · left; rw [if_neg k0] at hxl
        have : upM m k (m k + 1) k = m k + 1 := if_pos rfl
        rwa [this] at hxl
    by_cases w2 : m k * pl_w k ≤ x ∧ x < m k * pl_w k + pl_w k
    · have := hQ (x - m k * pl_w k) (by omega)
      rw [show m k * pl_w k + (x - m k * pl_w k) = x by omega] at this
      rw [this]
      exact congrArg q.2 (show plK k (m k) + (x - m k * pl_w k) = pl_o k + x by rw [hp]; omega)
    · have hlt : x < m k * pl_w k := by
        rcases hxl' with h1 | ⟨h1, h2⟩
        · rw [Nat.succ_mul] at h1; omega
        · subst h1
          have : m 0 = 0 := by rcases m0 with q | q <;> omega
          rw [this] at w2
          have : pl_w 0 = 4 := rfl
          omega
      rw [hx x (Or.inl hlt), hR.1 k hk x (by
        by_cases k0 : k = 0
        · rw [if_pos k0]
          subst k0
          have : m 0 = 0 := by rcases m0 with q | q <;> omega
          rw [this] at hlt
          omega
        · rw [if_neg k0]; exact hlt), old]
      rw [hp]
      omega
  · have e1 : upM m kd (m kd + 1) k = m k := if_neg w
    rw [e1] at hxl
    have := hm k hk
    rw [hK.2.2.2.2.2.1 (71 + k) (by omega) (by omega), hR.1 k hk x hxl, old]
    rw [hp]
    rcases kd3 hk with rfl | rfl | rfl <;> rcases kd3 hl with rfl | rfl | rfl <;> simp [pl_o, pl_w, pl_m] at * <;> omega
theorem L_clM (hN : 1000 ≤ N) (d f : Nat) (hT : MTp M T s) (hw : mm_I M 60 4 = -1) (ha : mm_I M 60 3 = nI a) (has : a ≤ s) (hm : ∀ k, k < 3 → m k ≤ pl_m k) (hR : MRw M m v) : (∀ p, clP T s a m v = .inl p → ∃ y M1, lp_X12_readDuchy n xs N (d + 5) (f + 1) 49 [some (.ref 60), some (.int (mb (decide (m 0 ≠ 0)))), some (.int (1 : Int32)), none] [] M = lp_X12_readDuchy n xs N (d + 5) f 49 [some (.ref 60), some (.int y), some (.int (0 : Int32)), none] [] M1 ∧ DMf M M1 ∧ IF T s M1 p) ∧ ∀ q, clP T s a m v = .inr q → ∃ Ma Mb, lp_X12_readDuchy n xs N (d + 5) (f + 1) 49 [some (.ref 60), some (.int (mb (decide (m 0 ≠ 0)))), some (.int (1 : Int32)), none] [] M = (if cu T s (sk T s q.1) = 59 then lp_X12_readDuchy n xs N (d + 5) f 49 [some (.ref 60), some (.int (mb (decide (q.2.1 0 ≠ 0)))), some (.int (1 : Int32)), none] [] Ma else lp_X12_readDuchy n xs N (d + 5) f 49 [some (.ref 60), some (.int (mb (decide (q.2.1 0 ≠ 0)))), some (.int (0 : Int32)), none] [] Mb) ∧ (DMf M Ma ∧ mm_I Ma 60 4 = -1 ∧ mm_I Ma 60 3 = nI (sk T s q.1 + 1) ∧ MRw Ma q.2.1 q.2.2) ∧ DMf M Mb ∧ mm_I Mb 60 4 = -1 ∧ mm_I Mb 60 3 = nI (sk T s q.1) ∧ MRw Mb q.2.1 q.2.2 := by
  obtain ⟨M1, e1, x1⟩ := E_lookM (n := n) (xs := xs) (N := N) hN (d + 3) hT ha has
  have hb := sk_le (T := T) has
  have hs := hT.1
  have hT1 := hT.mt x1
  have h41 : mm_I M1 60 4 = -1 := (x1.q (by decide)).trans hw
  have hR1 : MRw M1 m v := ⟨fun kd h x hx => by rw [x1.I (by omega)]; exact hR.1 kd h x hx, (x1.q (by decide)).trans hR.2.1, (x1.q (by decide)).trans hR.2.2⟩
  have k20 := hR1.2.1
  have k21 := hR1.2.2
  have l1 : m 1 ≤ 4 := hm 1 (by omega)
  have l2 : m 2 ≤ 7 := hm 2 (by omega)
  have x2 : MT M (mm_wI M1 60 3 (nI (sk T s a + 1))) (sk T s a + 1) := x1.tr MT.w
  have eb := E_bad (n := n) (xs := xs) (N := N) (d + 4) h41 x1.pl
  have nbad : mm_I (mm_wI M1 60 4 (nI (sk T s a))) 60 4 = nI (sk T s a) := by rw [I_s, if_pos rfl]
  -- where no clause begins
  have bad : (lp_X12_readDuchy n xs N (d + 5) (f + 1) 49 [some (.ref 60), some (.int (mb (decide (m 0 ≠ 0)))), some (.int (1 : Int32)), none] [] M = lp_X12_readDuchy n xs N (d + 5) f 49 [some (.ref 60), some (.int (mb (decide (m 0 ≠ 0)))), some (.int (0 : Int32)), none] [] (mm_wI (mm_wI M1 60 4 (nI (sk T s a))) 60 3 (mm_I (mm_wI M1 60 4 (nI (sk T s a))) 60 3 + 0))) → ∃ y M3, lp_X12_readDuchy n xs N (d + 5) (f + 1) 49 [some (.ref 60), some (.int (mb (decide (m 0 ≠ 0)))), some (.int (1 : Int32)), none] [] M = lp_X12_readDuchy n xs N (d + 5) f 49 [some (.ref 60), some (.int y), some (.int (0 : Int32)), none] [] M3 ∧ DMf M M3 ∧ IF T s M3 (sk T s a) := fun e => ⟨_, _, e, ((x1.mw.tr MW.w4).tr MW.w3).dm, hb, Or.inl (by rw [I_s, if_neg (by decide), I_s, if_pos rfl])⟩
  have head : lp_X12_readDuchy n xs N (d + 5) (f + 1) 49 [some (.ref 60), some (.int (mb (decide (m 0 ≠ 0)))), some (.int (1 : Int32)), none] [] M = lp_X12_readDuchy n xs N (d + 5) (f + 1) 49 [some (.ref 60), some (.int (mb (decide (m 0 ≠ 0)))), some (.int (1 : Int32)), none] [] M := rfl
  unfold clP
  rw [kdN_eq]
  by_cases c0 : cu T s (sk T s a) = 115
  · rw [if_pos c0.symm]
    dsimp only
    have hlt := cu_lt c0 (by decide)
    by_cases w : m 0 < pl_m 0
    · have w0 : m 0 = 0 := by have : pl_m 0 = 1 := rfl; omega
      rw [if_pos w]
      obtain ⟨i1, i2⟩ := E_items (n := n) (xs := xs) (N := N) hN d (kd := 0) (by omega) (i := m 0) w v (hT.mt x2) ((x2.q (by decide)).trans hw) x2.pl (show sk T s a + 1 ≤ s by omega)
      rw [w0] at i1 i2
      have pre : ∀ M3, mm_E n xs N (d + 5) 216 [.ref 60, .int (115 : Int32), .ref 71, .int (0 : Int32), .int (4 : Int32)] (mm_wI M1 60 3 (nI (sk T s a + 1))) = some (none, M3) → lp_X12_readDuchy n xs N (d + 5) (f + 1) 49 [some (.ref 60), some (.int (mb (decide (m 0 ≠ 0)))), some (.int (1 : Int32)), none] [] M = (if (mm_I M3 60 4) = (-1 : Int32) then ((mm_aI (mm_E n xs N (d + 5) 187 [.ref 60] M3)).bind fun p8 => (if p8.1 = (59 : Int32) then (if (1 : Int32) = 0 then (lp_X12_readDuchy n xs N (d + 5) f 49 [some (.ref 60), some (.int (1 : Int32)), some (.int (1 : Int32)), none] [] (mm_wI p8.2 60 3 ((mm_I p8.2 60 3) + (0 : Int32)))) else (lp_X12_readDuchy n xs N (d + 5) f 49 [some (.ref 60), some (.int (1 : Int32)), some (.int (1 : Int32)), none] [] (mm_wI p8.2 60 3 ((mm_I p8.2 60 3) + (1 : Int32))))) else (if (0 : Int32) = 0 then (lp_X12_readDuchy n xs N (d + 5) f 49 [some (.ref 60), some (.int (1 : Int32)), some (.int (0 : Int32)), none] [] (mm_wI p8.2 60 3 ((mm_I p8.2 60 3) + (0 : Int32)))) else (lp_X12_readDuchy n xs N (d + 5) f 49 [some (.ref 60), some (.int (1 : Int32)), some (.int (0 : Int32)), none] [] (mm_wI p8.2 60 3 ((mm_I p8.2 60 3) + (1 : Int32))))))) else (if (0 : Int32) = 0 then (lp_X12_readDuchy n xs N (d + 5) f 49 [some (.ref 60), some (.int (1 : Int32)), some (.int (0 : Int32)), none] [] (mm_wI M3 60 3 ((mm_I M3 60 3) + (0 : Int32)))) else (lp_X12_readDuchy n xs N (d + 5) f 49 [some (.ref 60), some (.int (1 : Int32)), some (.int (0 : Int32)), none] [] (mm_wI M3 60 3 ((mm_I M3 60 3) + (1 : Int32)))))) := by
        intro M3 e3
        rw [lu_X12_readDuchy_49, if_neg (show ¬ (1 : Int32) = 0 by decide), if_pos hw, e1, ra_I, Option.bind_some]
        dsimp only
        rw [c0, if_pos rfl, w0, if_pos (by decide), x1.pl, nI_1, e3, ra_V, Option.bind_some]
      cases e5 : itL T s 0 (plK 0 (m 0)) (s + 1) (sk T s a + 1) 0 (dfl 0 (m 0) v) with
      | inl p =>
        rw [w0] at e5
        obtain ⟨M3, e3, x3, y3⟩ := i1 p e5
        rw [Nat.zero_mul, nI_0] at e3
        refine ⟨fun p' hp => ?_, fun q hq => by cases hq⟩
        cases hp
        rw [pre M3 e3]
        by_cases w4 : mm_I M3 60 4 = -1
        · have hT3 := (hT.mt x2).kr (kd := 0) (by omega) x3
          obtain ⟨hp, y4⟩ := id y3
          rcases y4 with y4 | ⟨-, y5, y6, y7, y8⟩
          · rw [w4] at y4; exact absurd y4.symm (nI_ne1 (by omega))
          · obtain ⟨Ma, Mb, t1, t2, t3⟩ := du_tail (n := n) (xs := xs) (N := N) hN (d + 3) f 1 hT3 y5 hp
            rw [y6] at t1 t3
            rw [if_pos w4, t1, if_neg y7]
            exact ⟨_, Mb, rfl, ((x2.mw.dm).tr (x3.dm (by omega))).tr t3.mw.dm, y3.mt w4 hs t3⟩
        · rw [if_neg w4, if_pos (show (0 : Int32) = 0 from rfl)]
          refine ⟨_, _, rfl, ((x2.mw.dm).tr (x3.dm (by omega))).tr MW.w3.dm, y3.1, Or.inl ?_⟩
          rw [I_s, if_neg (by decide)]
          exact y3.2.resolve_right (fun q => w4 q.1)
      | inr r =>
        rw [w0] at e5
        obtain ⟨M3, e3, x3, z1, z2, z3, z4, z5⟩ := i2 r e5
        rw [Nat.zero_mul, nI_0] at e3
        have gr := itL_ge (s + 1) (sk T s a + 1) 0 _ r (by omega) (by omega) e5
        refine ⟨fun p' hp => (by cases hp), fun q hq => ?_⟩
        cases hq
        have hT3 := (hT.mt x2).kr (kd := 0) (by omega) x3
        obtain ⟨Ma, Mb, t1, t2, t3⟩ := du_tail (n := n) (xs := xs) (N := N) hN (d + 3) f 1 hT3 z2 gr.2
        have fr3 : DMf M M3 := (x2.mw.dm).tr (x3.dm (by omega))
        have rows := MRw.cl (kd := 0) (by omega) hm w (M := mm_wI M1 60 3 (nI (sk T s a + 1))) ⟨fun kd h x hx => by rw [x2.I (by omega)]; exact hR.1 kd h x hx, (x2.q (by decide)).trans hR.2.1, (x2.q (by decide)).trans hR.2.2⟩ (by rw [w0]; exact e5) x3 (by rw [w0]; exact z4) (by rw [w0]; exact z5) (Or.inr w0)
        have c1 : mm_I M3 60 20 = nI (upM m 0 (m 0 + 1) 1) := by rw [x3.2.2.2.2.2.2 20 (by decide) (by decide), x2.q (by decide)]; exact hR.2.1
        have c2 : mm_I M3 60 21 = nI (upM m 0 (m 0 + 1) 2) := by rw [x3.2.2.2.2.2.2 21 (by decide) (by decide), x2.q (by decide)]; exact hR.2.2
        refine ⟨Ma, Mb, ?_, ⟨fr3.tr t2.mw.dm, (t2.q (by decide)).trans z1, t2.pl, fun kd h x hx => by rw [t2.I (by omega)]; exact rows kd h x hx, (t2.q (by decide)).trans c1, (t2.q (by decide)).trans c2⟩, fr3.tr t3.mw.dm, (t3.q (by decide)).trans z1, t3.pl, fun kd h x hx => by rw [t3.I (by omega)]; exact rows kd h x hx, (t3.q (by decide)).trans c1, (t3.q (by decide)).trans c2⟩
        rw [pre M3 e3, if_pos z1, t1]
        have : mb (decide (upM m 0 (m 0 + 1) 0 ≠ 0)) = 1 := by
          show mb (decide ((if 0 = 0 then m 0 + 1 else m 0) ≠ 0)) = 1
          rw [w0]
          decide
        rw [this]
    · rw [if_neg w]
      have w0 : m 0 ≠ 0 := by have : pl_m 0 = 1 := rfl; omega
      refine ⟨fun p hp => ?_, fun q hq => by cases hq⟩
      cases hp
      refine bad ?_
      rw [lu_X12_readDuchy_49, if_neg (show ¬ (1 : Int32) = 0 by decide), if_pos hw, e1, ra_I, Option.bind_some]
      dsimp only
      rw [c0, if_pos rfl, decide_eq_true w0, if_neg (show ¬ mb true = 0 by decide), if_neg (show ¬ (115 : Int32) = 107 by decide), if_neg (show ¬ (115 : Int32) = 109 by decide), eb, ra_V, Option.bind_some, nbad, if_neg (nI_ne1 (by omega)), if_pos (show (0 : Int32) = 0 from rfl)]
  rw [if_neg (show ¬ (115 : Int32) = cu T s (sk T s a) from fun e => c0 e.symm)]
  by_cases c1 : cu T s (sk T s a) = 107
  · rw [if_pos c1.symm]
    dsimp only
    have hlt := cu_lt c1 (by decide)
    have plm : pl_m 1 = 4 := rfl
    by_cases w : m 1 < pl_m 1
    · rw [if_pos w]
      obtain ⟨i1, i2⟩ := E_items (n := n) (xs := xs) (N := N) hN d (kd := 1) (by omega) (i := m 1) w v (hT.mt x2) ((x2.q (by decide)).trans hw) x2.pl (show sk T s a + 1 ≤ s by omega)
      have eix : (2 : Int32) * nI (m 1) = nI (m 1 * pl_w 1) := by rw [show (2 : Int32) = nI 2 from rfl, pk_mul, show 2 * m 1 = m 1 * pl_w 1 from Nat.mul_comm _ _]
      have pre : ∀ M3, mm_E n xs N (d + 5) 216 [.ref 60, .int (mm_tb 7 1), .ref (71 + 1), .int (nI (m 1 * pl_w 1)), .int (nI (pl_w 1))] (mm_wI M1 60 3 (nI (sk T s a + 1))) = some (none, M3) → lp_X12_readDuchy n xs N (d + 5) (f + 1) 49 [some (.ref 60), some (.int (mb (decide (m 0 ≠ 0)))), some (.int (1 : Int32)), none] [] M = (if (mm_I M3 60 4) = (-1 : Int32) then ((mm_aI (mm_E n xs N (d + 5) 187 [.ref 60] (mm_wI M3 60 20 ((mm_I M3 60 20) + (1 : Int32))))).bind fun p8 => (if p8.1 = (59 : Int32) then (if (1 : Int32) = 0 then (lp_X12_readDuchy n xs N (d + 5) f 49 [some (.ref 60), some (.int (mb (decide (m 0 ≠ 0)))), some (.int (1 : Int32)), none] [] (mm_wI p8.2 60 3 ((mm_I p8.2 60 3) + (0 : Int32)))) else (lp_X12_readDuchy n xs N (d + 5) f 49 [some (.ref 60), some (.int (mb (decide (m 0 ≠ 0)))), some (.int (1 : Int32)), none] [] (mm_wI p8.2 60 3 ((mm_I p8.2 60 3) + (1 : Int32))))) else (if (0 : Int32) = 0 then (lp_X12_readDuchy n xs N (d + 5) f 49 [some (.ref 60), some (.int (mb (decide (m 0 ≠ 0)))), some (.int (0 : Int32)), none] [] (mm_wI p8.2 60 3 ((mm_I p8.2 60 3) + (0 : Int32)))) else (lp_X12_readDuchy n xs N (d + 5) f 49 [some (.ref 60), some (.int (mb (decide (m 0 ≠ 0)))), some (.int (0 : Int32)), none] [] (mm_wI p8.2 60 3 ((mm_I p8.2 60 3) + (1 : Int32))))))) else (if (0 : Int32) = 0 then (lp_X12_readDuchy n xs N (d + 5) f 49 [some (.ref 60), some (.int (mb (decide (m 0 ≠ 0)))), some (.int (0 : Int32)), none] [] (mm_wI (mm_wI M3 60 20 ((mm_I M3 60 20) + (1 : Int32))) 60 3 ((mm_I M3 60 3) + (0 : Int32)))) else (lp_X12_readDuchy n xs N (d + 5) f 49 [some (.ref 60), some (.int (mb (decide (m 0 ≠ 0)))), some (.int (0 : Int32)), none] [] (mm_wI (mm_wI M3 60 20 ((mm_I M3 60 20) + (1 : Int32))) 60 3 ((mm_I M3 60 3) + (1 : Int32)))))) := by
        intro M3 e3
        rw [lu_X12_readDuchy_49, if_neg (show ¬ (1 : Int32) = 0 by decide), if_pos hw, e1, ra_I, Option.bind_some]
        dsimp only
        rw [c1, if_neg (show ¬ (107 : Int32) = 115 by decide), if_pos rfl, k20, if_neg (show ¬ (4 : Int32) ≤ nI (m 1) from nI_ge (b := 4) (by omega) (by omega)), x1.pl, nI_1, eix, show mm_E n xs N (d + 5) 216 [.ref 60, .int (107 : Int32), .ref 72, .int (nI (m 1 * pl_w 1)), .int (2 : Int32)] (mm_wI M1 60 3 (nI (sk T s a + 1))) = _ from e3, ra_V, Option.bind_some]
      cases e5 : itL T s 1 (plK 1 (m 1)) (s + 1) (sk T s a + 1) 0 (dfl 1 (m 1) v) with
      | inl p =>
        obtain ⟨M3, e3, x3, y3⟩ := i1 p e5
        refine ⟨fun p' hp => ?_, fun q hq => by cases hq⟩
        cases hp
        rw [pre M3 e3]
        have hT3 := (hT.mt x2).kr (kd := 1) (by omega) x3
        have fr3 : DMf M (mm_wI M3 60 20 ((mm_I M3 60 20) + (1 : Int32))) := ((x2.mw.dm).tr (x3.dm (by omega))).tr DMf.w20
        have p4 : mm_I (mm_wI M3 60 20 ((mm_I M3 60 20) + (1 : Int32))) 60 4 = mm_I M3 60 4 := by rw [I_s, if_neg (by decide)]
        have p3 : mm_I (mm_wI M3 60 20 ((mm_I M3 60 20) + (1 : Int32))) 60 3 = mm_I M3 60 3 := by rw [I_s, if_neg (by decide)]
        have y3' : IF T s (mm_wI M3 60 20 ((mm_I M3 60 20) + (1 : Int32))) p := by unfold IF at y3 ⊢; rw [p4, p3]; exact y3
        by_cases w4 : mm_I M3 60 4 = -1
        · obtain ⟨hp, y4⟩ := id y3'
          rcases y4 with y4 | ⟨-, y5, y6, y7, y8⟩
          · rw [p4, w4] at y4; exact absurd y4.symm (nI_ne1 (by omega))
          · obtain ⟨Ma, Mb, t1, t2, t3⟩ := du_tail (n := n) (xs := xs) (N := N) hN (d + 3) f (mb (decide (m 0 ≠ 0))) (hT3.dm DMf.w20) y5 hp
            rw [y6] at t1 t3
            rw [if_pos w4, t1, if_neg y7]
            exact ⟨_, Mb, rfl, fr3.tr t3.mw.dm, y3'.mt (p4.trans w4) hs t3⟩
        · rw [if_neg w4, if_pos (show (0 : Int32) = 0 from rfl)]
          refine ⟨_, _, rfl, fr3.tr MW.w3.dm, y3.1, Or.inl ?_⟩
          rw [I_s, if_neg (by decide), p4]
          exact y3.2.resolve_right (fun q => w4 q.1)
      | inr r =>
        obtain ⟨M3, e3, x3, z1, z2, z3, z4, z5⟩ := i2 r e5
        have gr := itL_ge (s + 1) (sk T s a + 1) 0 _ r (by omega) (by omega) e5
        refine ⟨fun p' hp => (by cases hp), fun q hq => ?_⟩
        cases hq
        have hT3 := (hT.mt x2).kr (kd := 1) (by omega) x3
        have p4 : mm_I (mm_wI M3 60 20 ((mm_I M3 60 20) + (1 : Int32))) 60 4 = mm_I M3 60 4 := by rw [I_s, if_neg (by decide)]
        have p3 : mm_I (mm_wI M3 60 20 ((mm_I M3 60 20) + (1 : Int32))) 60 3 = mm_I M3 60 3 := by rw [I_s, if_neg (by decide)]
        obtain ⟨Ma, Mb, t1, t2, t3⟩ := du_tail (n := n) (xs := xs) (N := N) hN (d + 3) f (mb (decide (m 0 ≠ 0))) (hT3.dm DMf.w20) (p3.trans z2) gr.2
        have fr3 : DMf M (mm_wI M3 60 20 ((mm_I M3 60 20) + (1 : Int32))) := ((x2.mw.dm).tr (x3.dm (by omega))).tr DMf.w20
        have rows := MRw.cl (kd := 1) (by omega) hm w (M := mm_wI M1 60 3 (nI (sk T s a + 1))) ⟨fun kd h x hx => by rw [x2.I (by omega)]; exact hR.1 kd h x hx, (x2.q (by decide)).trans hR.2.1, (x2.q (by decide)).trans hR.2.2⟩ e5 x3 z4 z5 (Or.inl (by decide))
        have f0 : mm_I M3 60 20 = nI (m 1) := by rw [x3.2.2.2.2.2.2 20 (by decide) (by decide), x2.q (by decide)]; exact hR.2.1
        have cA : mm_I (mm_wI M3 60 20 ((mm_I M3 60 20) + (1 : Int32))) 60 20 = nI (upM m 1 (m 1 + 1) 1) := by
          rw [I_s, if_pos rfl, f0, nI_1]
          rfl
        have cB : mm_I (mm_wI M3 60 20 ((mm_I M3 60 20) + (1 : Int32))) 60 21 = nI (upM m 1 (m 1 + 1) 2) := by
          rw [I_s, if_neg (by decide), x3.2.2.2.2.2.2 21 (by decide) (by decide), x2.q (by decide)]; exact hR.2.2
        have rw2 : ∀ kd, kd < 3 → ∀ x, x < (if kd = 0 then 4 else upM m 1 (m 1 + 1) kd * pl_w kd) → mm_I (mm_wI M3 60 20 ((mm_I M3 60 20) + (1 : Int32))) (71 + kd) x = r.2 (pl_o kd + x) := fun kd h x hx => by rw [I_wn (by omega)]; exact rows kd h x hx
        refine ⟨Ma, Mb, ?_, ⟨fr3.tr t2.mw.dm, ((t2.q (by decide)).trans p4).trans z1, t2.pl, fun kd h x hx => by rw [t2.I (by omega)]; exact rw2 kd h x hx, (t2.q (by decide)).trans cA, (t2.q (by decide)).trans cB⟩, fr3.tr t3.mw.dm, ((t3.q (by decide)).trans p4).trans z1, t3.pl, fun kd h x hx => by rw [t3.I (by omega)]; exact rw2 kd h x hx, (t3.q (by decide)).trans cA, (t3.q (by decide)).trans cB⟩
        rw [pre M3 e3, if_pos z1, t1]
        rfl
    · rw [if_neg w]
      refine ⟨fun p hp => ?_, fun q hq => by cases hq⟩
      cases hp
      refine bad ?_
      rw [lu_X12_readDuchy_49, if_neg (show ¬ (1 : Int32) = 0 by decide), if_pos hw, e1, ra_I, Option.bind_some]
      dsimp only
      rw [c1, if_neg (show ¬ (107 : Int32) = 115 by decide), if_pos rfl, k20, if_pos (show (4 : Int32) ≤ nI (m 1) from nI_le (a := 4) (by omega) (by omega)), if_neg (show ¬ (107 : Int32) = 109 by decide), eb, ra_V, Option.bind_some, nbad, if_neg (nI_ne1 (by omega)), if_pos (show (0 : Int32) = 0 from rfl)]
  rw [if_neg (show ¬ (107 : Int32) = cu T s (sk T s a) from fun e => c1 e.symm)]
  by_cases c2 : cu T s (sk T s a) = 109
  · rw [if_pos c2.symm]
    dsimp only
    have hlt := cu_lt c2 (by decide)
    have plm : pl_m 2 = 7 := rfl
    by_cases w : m 2 < pl_m 2
    · rw [if_pos w]
      obtain ⟨i1, i2⟩ := E_items (n := n) (xs := xs) (N := N) hN d (kd := 2) (by omega) (i := m 2) w v (hT.mt x2) ((x2.q (by decide)).trans hw) x2.pl (show sk T s a + 1 ≤ s by omega)
      have eix : (4 : Int32) * nI (m 2) = nI (m 2 * pl_w 2) := by rw [show (4 : Int32) = nI 4 from rfl, pk_mul, show 4 * m 2 = m 2 * pl_w 2 from Nat.mul_comm _ _]
      have pre : ∀ M3, mm_E n xs N (d + 5) 216 [.ref 60, .int (mm_tb 7 2), .ref (71 + 2), .int (nI (m 2 * pl_w 2)), .int (nI (pl_w 2))] (mm_wI M1 60 3 (nI (sk T s a + 1))) = some (none, M3) → lp_X12_readDuchy n xs N (d + 5) (f + 1) 49 [some (.ref 60), some (.int (mb (decide (m 0 ≠ 0)))), some (.int (1 : Int32)), none] [] M = (if (mm_I M3 60 4) = (-1 : Int32) then ((mm_aI (mm_E n xs N (d + 5) 187 [.ref 60] (mm_wI M3 60 21 ((mm_I M3 60 21) + (1 : Int32))))).bind fun p8 => (if p8.1 = (59 : Int32) then (if (1 : Int32) = 0 then (lp_X12_readDuchy n xs N (d + 5) f 49 [some (.ref 60), some (.int (mb (decide (m 0 ≠ 0)))), some (.int (1 : Int32)), none] [] (mm_wI p8.2 60 3 ((mm_I p8.2 60 3) + (0 : Int32)))) else (lp_X12_readDuchy n xs N (d + 5) f 49 [some (.ref 60), some (.int (mb (decide (m 0 ≠ 0)))), some (.int (1 : Int32)), none] [] (mm_wI p8.2 60 3 ((mm_I p8.2 60 3) + (1 : Int32))))) else (if (0 : Int32) = 0 then (lp_X12_readDuchy n xs N (d + 5) f 49 [some (.ref 60), some (.int (mb (decide (m 0 ≠ 0)))), some (.int (0 : Int32)), none] [] (mm_wI p8.2 60 3 ((mm_I p8.2 60 3) + (0 : Int32)))) else (lp_X12_readDuchy n xs N (d + 5) f 49 [some (.ref 60), some (.int (mb (decide (m 0 ≠ 0)))), some (.int (0 : Int32)), none] [] (mm_wI p8.2 60 3 ((mm_I p8.2 60 3) + (1 : Int32))))))) else (if (0 : Int32) = 0 then (lp_X12_readDuchy n xs N (d + 5) f 49 [some (.ref 60), some (.int (mb (decide (m 0 ≠ 0)))), some (.int (0 : Int32)), none] [] (mm_wI (mm_wI M3 60 21 ((mm_I M3 60 21) + (1 : Int32))) 60 3 ((mm_I M3 60 3) + (0 : Int32)))) else (lp_X12_readDuchy n xs N (d + 5) f 49 [some (.ref 60), some (.int (mb (decide (m 0 ≠ 0)))), some (.int (0 : Int32)), none] [] (mm_wI (mm_wI M3 60 21 ((mm_I M3 60 21) + (1 : Int32))) 60 3 ((mm_I M3 60 3) + (1 : Int32)))))) := by
        intro M3 e3
        rw [lu_X12_readDuchy_49, if_neg (show ¬ (1 : Int32) = 0 by decide), if_pos hw, e1, ra_I, Option.bind_some]
        dsimp only
        rw [c2, if_neg (show ¬ (109 : Int32) = 115 by decide), if_neg (show ¬ (109 : Int32) = 107 by decide), if_pos rfl, k21, if_neg (show ¬ (7 : Int32) ≤ nI (m 2) from nI_ge (b := 7) (by omega) (by omega)), x1.pl, nI_1, eix, show mm_E n xs N (d + 5) 216 [.ref 60, .int (109 : Int32), .ref 73, .int (nI (m 2 * pl_w 2)), .int (4 : Int32)] (mm_wI M1 60 3 (nI (sk T s a + 1))) = _ from e3, ra_V, Option.bind_some]
      cases e5 : itL T s 2 (plK 2 (m 2)) (s + 1) (sk T s a + 1) 0 (dfl 2 (m 2) v) with
      | inl p =>
        obtain ⟨M3, e3, x3, y3⟩ := i1 p e5
        refine ⟨fun p' hp => ?_, fun q hq => by cases hq⟩
        cases hp
        rw [pre M3 e3]
        have hT3 := (hT.mt x2).kr (kd := 2) (by omega) x3
        have fr3 : DMf M (mm_wI M3 60 21 ((mm_I M3 60 21) + (1 : Int32))) := ((x2.mw.dm).tr (x3.dm (by omega))).tr DMf.w21
        have p4 : mm_I (mm_wI M3 60 21 ((mm_I M3 60 21) + (1 : Int32))) 60 4 = mm_I M3 60 4 := by rw [I_s, if_neg (by decide)]
        have p3 : mm_I (mm_wI M3 60 21 ((mm_I M3 60 21) + (1 : Int32))) 60 3 = mm_I M3 60 3 := by rw [I_s, if_neg (by decide)]
        have y3' : IF T s (mm_wI M3 60 21 ((mm_I M3 60 21) + (1 : Int32))) p := by unfold IF at y3 ⊢; rw [p4, p3]; exact y3
        by_cases w4 : mm_I M3 60 4 = -1
        · obtain ⟨hp, y4⟩ := id y3'
          rcases y4 with y4 | ⟨-, y5, y6, y7, y8⟩
          · rw [p4, w4] at y4; exact absurd y4.symm (nI_ne1 (by omega))
          · obtain ⟨Ma, Mb, t1, t2, t3⟩ := du_tail (n := n) (xs := xs) (N := N) hN (d + 3) f (mb (decide (m 0 ≠ 0))) (hT3.dm DMf.w21) y5 hp
            rw [y6] at t1 t3
            rw [if_pos w4, t1, if_neg y7]
            exact ⟨_, Mb, rfl, fr3.tr t3.mw.dm, y3'.mt (p4.trans w4) hs t3⟩
        · rw [if_neg w4, if_pos (show (0 : Int32) = 0 from rfl)]
          refine ⟨_, _, rfl, fr3.tr MW.w3.dm, y3.1, Or.inl ?_⟩
          rw [I_s, if_neg (by decide), p4]
          exact y3.2.resolve_right (fun q => w4 q.1)
      | inr r =>
        obtain ⟨M3, e3, x3, z1, z2, z3, z4, z5⟩ := i2 r e5
        have gr := itL_ge (s + 1) (sk T s a + 1) 0 _ r (by omega) (by omega) e5
        refine ⟨fun p' hp => (by cases hp), fun q hq => ?_⟩
        cases hq
        have hT3 := (hT.mt x2).kr (kd := 2) (by omega) x3
        have p4 : mm_I (mm_wI M3 60 21 ((mm_I M3 60 21) + (1 : Int32))) 60 4 = mm_I M3 60 4 := by rw [I_s, if_neg (by decide)]
        have p3 : mm_I (mm_wI M3 60 21 ((mm_I M3 60 21) + (1 : Int32))) 60 3 = mm_I M3 60 3 := by rw [I_s, if_neg (by decide)]
        obtain ⟨Ma, Mb, t1, t2, t3⟩ := du_tail (n := n) (xs := xs) (N := N) hN (d + 3) f (mb (decide (m 0 ≠ 0))) (hT3.dm DMf.w21) (p3.trans z2) gr.2
        have fr3 : DMf M (mm_wI M3 60 21 ((mm_I M3 60 21) + (1 : Int32))) := ((x2.mw.dm).tr (x3.dm (by omega))).tr DMf.w21
        have rows := MRw.cl (kd := 2) (by omega) hm w (M := mm_wI M1 60 3 (nI (sk T s a + 1))) ⟨fun kd h x hx => by rw [x2.I (by omega)]; exact hR.1 kd h x hx, (x2.q (by decide)).trans hR.2.1, (x2.q (by decide)).trans hR.2.2⟩ e5 x3 z4 z5 (Or.inl (by decide))
        have f0 : mm_I M3 60 21 = nI (m 2) := by rw [x3.2.2.2.2.2.2 21 (by decide) (by decide), x2.q (by decide)]; exact hR.2.2
        have cA : mm_I (mm_wI M3 60 21 ((mm_I M3 60 21) + (1 : Int32))) 60 21 = nI (upM m 2 (m 2 + 1) 2) := by
          rw [I_s, if_pos rfl, f0, nI_1]
          rfl
        have cB : mm_I (mm_wI M3 60 21 ((mm_I M3 60 21) + (1 : Int32))) 60 20 = nI (upM m 2 (m 2 + 1) 1) := by
          rw [I_s, if_neg (by decide), x3.2.2.2.2.2.2 20 (by decide) (by decide), x2.q (by decide)]; exact hR.2.1
        have rw2 : ∀ kd, kd < 3 → ∀ x, x < (if kd = 0 then 4 else upM m 2 (m 2 + 1) kd * pl_w kd) → mm_I (mm_wI M3 60 21 ((mm_I M3 60 21) + (1 : Int32))) (71 + kd) x = r.2 (pl_o kd + x) := fun kd h x hx => by rw [I_wn (by omega)]; exact rows kd h x hx
        refine ⟨Ma, Mb, ?_, ⟨fr3.tr t2.mw.dm, ((t2.q (by decide)).trans p4).trans z1, t2.pl, fun kd h x hx => by rw [t2.I (by omega)]; exact rw2 kd h x hx, (t2.q (by decide)).trans cB, (t2.q (by decide)).trans cA⟩, fr3.tr t3.mw.dm, ((t3.q (by decide)).trans p4).trans z1, t3.pl, fun kd h x hx => by rw [t3.I (by omega)]; exact rw2 kd h x hx, (t3.q (by decide)).trans cB, (t3.q (by decide)).trans cA⟩
        rw [pre M3 e3, if_pos z1, t1]
        rfl
    · rw [if_neg w]
      refine ⟨fun p hp => ?_, fun q hq => by cases hq⟩
      cases hp
      refine bad ?_
      rw [lu_X12_readDuchy_49, if_neg (show ¬ (1 : Int32) = 0 by decide), if_pos hw, e1, ra_I, Option.bind_some]
      dsimp only
      rw [c2, if_neg (show ¬ (109 : Int32) = 115 by decide), if_neg (show ¬ (109 : Int32) = 107 by decide), if_pos rfl, k21, if_pos (show (7 : Int32) ≤ nI (m 2) from nI_le (a := 7) (by omega) (by omega)), eb, ra_V, Option.bind_some, nbad, if_neg (nI_ne1 (by omega)), if_pos (show (0 : Int32) = 0 from rfl)]
  rw [if_neg (show ¬ (109 : Int32) = cu T s (sk T s a) from fun e => c2 e.symm)]
  dsimp only
  refine ⟨fun p hp => ?_, fun q hq => by cases hq⟩
  cases hp
  refine bad ?_
  rw [lu_X12_readDuchy_49, if_neg (show ¬ (1 : Int32) = 0 by decide), if_pos hw, e1, ra_I, Option.bind_some]
  dsimp only
  rw [if_neg c0, if_neg c1, if_neg c2, eb, ra_V, Option.bind_some, nbad, if_neg (nI_ne1 (by omega)), if_pos (show (0 : Int32) = 0 from rfl)]
/-- all clauses -/
theorem clP_m (hm : ∀ k, k < 3 → m k ≤ pl_m k) (has : a ≤ s) {q : Nat × (Nat → Nat) × (Nat → Int32)} (e : clP T s a m v = .inr q) : (∀ k, k < 3 → q.2.1 k ≤ pl_m k) ∧ a < q.1 ∧ q.1 ≤ s := by
  have hb := sk_le (T := T) has
  have hge := sk_ge T s a
  unfold clP at e
  cases e1 : kdN (cu T s (sk T s a)) with
  | none => rw [e1] at e; cases e
  | some k =>
    rw [e1] at e
    dsimp only at e
    obtain ⟨h3, hlt, -⟩ := kd_in e1
    split at e
    · next w =>
      cases e5 : itL T s k (plK k (m k)) (s + 1) (sk T s a + 1) 0 (dfl k (m k) v) with
      | inl p => rw [e5] at e; cases e
      | inr r =>
        rw [e5] at e
        cases e
        have := itL_ge (s + 1) (sk T s a + 1) 0 _ r h3 (by omega) e5
        refine ⟨fun k' hk' => ?_, by dsimp only; omega, by dsimp only; omega⟩
        show (if k' = k then m k + 1 else m k') ≤ pl_m k'
        by_cases w2 : k' = k
        · rw [if_pos w2, w2]; omega
        · rw [if_neg w2]; exact hm k' hk'
    · cases e
theorem L_duM (hN : 1000 ≤ N) (d : Nat) : ∀ (g a f : Nat) (m : Nat → Nat) (v : Nat → Int32) (M : mmM), MTp M T s → mm_I M 60 4 = -1 → mm_I M 60 3 = nI a → a ≤ s → s - a < g → s - a + 2 < f → (∀ k, k < 3 → m k ≤ pl_m k) → MRw M m v → (∀ p, duP T s g a m v = .inl p → ∃ M1, lp_X12_readDuchy n xs N (d + 5) f 49 [some (.ref 60), some (.int (mb (decide (m 0 ≠ 0)))), some (.int (1 : Int32)), none] [] M = some (some (.int (nI p)), M1) ∧ DMf M M1) ∧ ∀ q, duP T s g a m v = .inr q → ∃ M1, lp_X12_readDuchy n xs N (d + 5) f 49 [some (.ref 60), some (.int (mb (decide (m 0 ≠ 0)))), some (.int (1 : Int32)), none] [] M = some (some (.int (-1)), M1) ∧ DMf M M1 ∧ MRw M1 q.1 q.2 := by
  intro g
  induction g with
  | zero => intro a f m v M _ _ _ _ hg; omega
  | succ g ih =>
    intro a f m v M hT hw ha has hg hf hm hR
    obtain ⟨f, rfl⟩ : ∃ g, f = g + 1 := ⟨f - 1, by omega⟩
    have hs := hT.1
    obtain ⟨c1, c2⟩ := L_clM (n := n) (xs := xs) (N := N) hN d f hT hw ha has hm hR
    rw [duP_s]
    cases e : clP T s a m v with
    | inl p =>
      obtain ⟨y, M1, e1, x1, y1⟩ := c1 p e
      refine ⟨fun p' hp => ?_, fun q hq => by cases hq⟩
      cases hp
      obtain ⟨f, rfl⟩ : ∃ g, f = g + 1 := ⟨f - 1, by omega⟩
      obtain ⟨M2, e2, x2⟩ := du_bad (n := n) (xs := xs) (N := N) hN (d + 3) f y (hT.dm x1) y1
      exact ⟨M2, by rw [e1]; exact e2, x1.tr x2⟩
    | inr r =>
      obtain ⟨Ma, Mb, e1, ⟨a1, a2, a3, a4⟩, b1, b2, b3, b4⟩ := c2 r e
      obtain ⟨m1, g1, g2⟩ := clP_m hm has e
      have hb := sk_le (T := T) g2
      have hge := sk_ge T s r.1
      rw [e1]
      dsimp only
      by_cases w : cu T s (sk T s r.1) = 59
      · rw [if_pos w, if_pos w]
        have hlt := cu_lt w (by decide)
        have i1 := ih (sk T s r.1 + 1) f r.2.1 r.2.2 Ma (hT.dm a1) a2 a3 (by omega) (by omega) (by omega) m1 a4
        refine ⟨fun p hp => ?_, fun q hq => ?_⟩
        · obtain ⟨M4, e4, x4⟩ := i1.1 p hp
          exact ⟨M4, e4, a1.tr x4⟩
        · obtain ⟨M4, e4, x4, y4⟩ := i1.2 q hq
          exact ⟨M4, e4, a1.tr x4, y4⟩
      · rw [if_neg w, if_neg w]
        have l1 : r.2.1 1 ≤ 4 := m1 1 (by omega)
        have l2 : r.2.1 2 ≤ 7 := m1 2 (by omega)
        obtain ⟨f, rfl⟩ : ∃ g, f = g + 1 := ⟨f - 1, by omega⟩
        obtain ⟨M2, e2, x2⟩ := du_end (n := n) (xs := xs) (N := N) hN (d + 3) f (mb (decide (r.2.1 0 ≠ 0))) (hT.dm b1) b2 b3 (sk_sk g2) hb b4.2.1 b4.2.2 (by omega) (by omega)
        by_cases q : cu T s (sk T s r.1) = -1 ∧ 0 < r.2.1 1 ∧ 0 < r.2.1 2
        · rw [if_pos q] at e2 ⊢
          refine ⟨fun p hp => (by cases hp), fun q' hq => ?_⟩
          cases hq
          exact ⟨M2, e2, b1.tr x2.dm, fun kd h x hx => by rw [x2.I (by omega)]; exact b4.1 kd h x hx, (x2.2.2.2.2.2.2 20 (by decide) (by decide)).trans b4.2.1, (x2.2.2.2.2.2.2 21 (by decide) (by decide)).trans b4.2.2⟩
        · rw [if_neg q] at e2 ⊢
          refine ⟨fun p hp => ?_, fun q' hq => by cases hq⟩
          cases hp
          exact ⟨M2, e2, b1.tr x2.dm⟩
theorem L_r24 (d g : Nat) (y : Int32) : ∀ (j k : Nat) (M : mmM), k + j = 4 → ∃ M1, lp_X12_readDuchy n xs N (d + 1) (g + j) 24 [some (.ref 60), some (.int y), some (.int (nI k)), none] [] M = lp_X12_readDuchy n xs N (d + 1) g 24 [some (.ref 60), some (.int y), some (.int (nI 4)), none] [] M1 ∧ S1 71 M M1 ∧ ∀ x, mm_I M1 71 x = if k ≤ x ∧ x < 4 then mm_tb 5 x else mm_I M 71 x := by
  intro j
  induction j with
  | zero =>
    intro k M hkj
    have : k = 4 := by omega
    subst this
    exact ⟨M, rfl, S1.rf, fun x => by rw [if_neg (by omega)]⟩
  | succ j ih =>
    intro k M hkj
    obtain ⟨M1, e1, x1, r1⟩ := ih (k + 1) (mm_wI M 71 k (mm_tb 5 k)) (by omega)
    refine ⟨M1, ?_, S1.wI.tr x1, fun x => ?_⟩
    · have eu := E_usual (n := n) (xs := xs) (N := N) d M (kd := 0) (by omega) (k := k) (by show k < 4; omega)
      rw [show fiK 0 + k = k by show 0 + k = k; omega] at eu
      rw [← Nat.add_assoc g j 1, lu_X12_readDuchy_24, if_neg (show ¬ (4 : Int32) ≤ nI k from nI_ge (b := 4) (by omega) (by omega)), show mm_E n xs N (d + 1) 215 [.int (115 : Int32), .int (nI k)] M = _ from eu, ra_I, Option.bind_some]
      dsimp only
      rw [mm_inb_nI (show k < 4 by omega) (by omega), mm_ble (show 16 ≤ 71 by omega), Bool.and_self, cond_true, nI_clamp (by omega), nI_1]
      exact e1
    · rw [r1 x, I_s]
      by_cases q : x = k
      · rw [if_neg (by omega), if_pos q, if_pos (by omega), q]
      · rw [if_neg q]
        by_cases q2 : k + 1 ≤ x ∧ x < 4
        · rw [if_pos q2, if_pos (by omega)]
        · rw [if_neg q2, if_neg (by omega)]
theorem E_duM (hN : 1000 ≤ N) (d : Nat) (v0 : Nat → Int32) (hT : MTp M T s) : (∀ p, duP T s (s + 1) 0 (fun _ => 0) (dfl 0 0 v0) = .inl p → ∃ M1, mm_E n xs N (d + 6) 217 [.ref 60] M = some (some (.int (nI p)), M1) ∧ DMf M M1) ∧ ∀ q, duP T s (s + 1) 0 (fun _ => 0) (dfl 0 0 v0) = .inr q → ∃ M1, mm_E n xs N (d + 6) 217 [.ref 60] M = some (some (.int (-1)), M1) ∧ DMf M M1 ∧ MRw M1 q.1 q.2 := by
  have hs := hT.1
  obtain ⟨g, hg⟩ : ∃ g, N = g + 1 + 4 := ⟨N - 5, by omega⟩
  obtain ⟨M1, e1, s1, r1⟩ := L_r24 (n := n) (xs := xs) (N := N) (d + 4) (g + 1) 0 4 0 (mm_wI (mm_wI (mm_wI (mm_wI M 60 3 0) 60 4 (-1)) 60 20 0) 60 21 0) (by omega)
  rw [← hg, nI_0] at e1
  have D0 : DMf M (mm_wI (mm_wI (mm_wI (mm_wI M 60 3 0) 60 4 (-1)) 60 20 0) 60 21 0) := (((MW.w3.tr MW.w4).dm).tr DMf.w20).tr DMf.w21
  have D1 : DMf M M1 := D0.tr ⟨s1.1, s1.2.1, s1.2.2.1, s1.2.2.2.1, s1.2.2.2.2.1, fun b _ h1 _ _ => s1.I h1, fun q _ _ _ _ => by rw [s1.I (by decide)]⟩
  have q60 : ∀ q, mm_I M1 60 q = if q = 21 then 0 else if q = 20 then 0 else if q = 4 then -1 else if q = 3 then 0 else mm_I M 60 q := fun q => by rw [s1.I (by decide), I_s, I_s, I_s, I_s]
  have pre : mm_E n xs N (d + 6) 217 [.ref 60] M = lp_X12_readDuchy n xs N (d + 5) g 49 [some (.ref 60), some (.int (mb (decide ((fun _ => 0 : Nat → Nat) 0 ≠ 0)))), some (.int (1 : Int32)), none] [] M1 := by
    rw [u_X12_readDuchy, e1, lu_X12_readDuchy_24, if_pos (show (4 : Int32) ≤ nI 4 from nI_le (a := 4) (by omega) (by omega))]
    rfl
  have hL := L_duM (n := n) (xs := xs) (N := N) hN d (s + 1) 0 g (fun _ => 0) (dfl 0 0 v0) M1 (hT.dm D1) (by rw [q60]; rfl) (by rw [q60]; rfl) (by omega) (by omega) (by omega) (fun k _ => Nat.zero_le _) ⟨fun kd h x hx => by
    rcases kd3 h with rfl | rfl | rfl
    · rw [if_pos rfl] at hx
      rw [r1 x, if_pos (by omega)]
      show _ = (if plK 0 0 ≤ 0 + x ∧ 0 + x < plK 0 0 + pl_w 0 then mm_tb 5 (fiK 0 + (0 + x - plK 0 0)) else v0 (0 + x))
      have e1 : plK 0 0 = 0 := rfl
      have e2 : pl_w 0 = 4 := rfl
      have e3 : fiK 0 = 0 := rfl
      rw [e1, e2, e3, if_pos (by omega), show 0 + (0 + x - 0) = x by omega]
    · rw [if_neg (by decide), Nat.zero_mul] at hx; omega
    · rw [if_neg (by decide), Nat.zero_mul] at hx; omega, by rw [q60]; rfl, by rw [q60]; rfl⟩
  rw [pre]
  refine ⟨fun p hp => ?_, fun q hq => ?_⟩
  · obtain ⟨M3, e3, x3⟩ := hL.1 p hp
    exact ⟨M3, e3, D1.tr x3⟩
  · obtain ⟨M3, e3, x3, y3⟩ := hL.2 q hq
    exact ⟨M3, e3, D1.tr x3, y3⟩
end DO3
