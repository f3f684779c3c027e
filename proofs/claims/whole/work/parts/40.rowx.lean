/-! the class goes by sets -/
/-- what the least row to a set is -/
def PL (nm i0 st0 : Nat) (f : Nat → Nat → Nat) (s : Nat) (v : Int32) : Prop := (v = -1 ∧ ∀ r, ¬ Fq nm i0 st0 (f 2) (f 3) r s) ∨ ∃ r, v = nI r ∧ Fq nm i0 st0 (f 2) (f 3) r s ∧ ∀ r', Fq nm i0 st0 (f 2) (f 3) r' s → r ≤ r'
def CX (nc nm i0 st0 : Nat) (f : Nat → Nat → Nat) (M : mmM) : Prop := RT M nc nm ∧ (∀ m w, m < nm → 1 ≤ w → w < 4 → mm_I M 33 (12 + m * 4 + w) = nI (f w m)) ∧ mm_I M 35 0 = nI st0 ∧ mm_I M 35 2 = nI i0
def DX (nm i0 st0 : Nat) (f : Nat → Nat → Nat) (M : mmM) (s : Nat) : Prop := ∀ t, t < s → mm_I M 54 t = nI (bsum (f 3) t) ∧ mm_I M 55 t = nI (bsum (f 1) t) ∧ PL nm i0 st0 f t (mm_I M 53 t)
section RX
variable {n : Nat} {xs : Nat → Int32} {N : Nat} {M M' : mmM} {nc nm i0 st0 : Nat} {f : Nat → Nat → Nat}
theorem RT.fr (h : RT M nc nm) (g : FR M M') : RT M' nc nm := h.mv (by rw [g.I (by decide)]) (g.I (by decide)) (g.2.2.2.2.2.2.1 25 (by decide) (by decide)) (g.2.2.2.2.2.2.1 26 (by decide) (by decide)) (g.I (by decide)) (g.I (by decide)) (g.I (by decide)) (g.I (by decide))
theorem CX.fr (h : CX nc nm i0 st0 f M) (g : FR M M') : CX nc nm i0 st0 f M' := by
  obtain ⟨h1, h2, h3, h4⟩ := h
  refine ⟨h1.fr g, ?_, ?_, ?_⟩
  · rw [g.I (by decide)]; exact h2
  · rw [g.I (by decide)]; exact h3
  · rw [g.I (by decide)]; exact h4
theorem E_lro (d : Nat) (M : mmM) {t : Nat} (ht : t < 128) : mm_E n xs N (d + 1) 56 [.ref 52, .int (nI t)] M = some (some (.int (mm_I M 53 t)), M) := by
  rw [u_X7_leastRowOf, if_neg (nI_pos (by omega)), if_neg (show ¬ (128 : Int32) ≤ nI t from nI_ge (b := 128) ht (by omega))]
  simp only [mm_inb_nI ht (by omega), cond_true, nI_clamp (show t < 2 ^ 31 by omega)]
theorem E_vo (d : Nat) (M : mmM) {t : Nat} (ht : t < 128) : mm_E n xs N (d + 1) 57 [.ref 52, .int (nI t)] M = some (some (.int (mm_I M 55 t)), M) := by
  rw [u_X7_valueOf, if_neg (nI_pos (by omega)), if_neg (show ¬ (128 : Int32) ≤ nI t from nI_ge (b := 128) ht (by omega))]
  simp only [mm_inb_nI ht (by omega), cond_true, nI_clamp (show t < 2 ^ 31 by omega)]
theorem E_sb (hb : BF nm i0 st0 f) (h : CX nc nm i0 st0 f M) (d : Nat) {t : Nat} (ht : t < 128) (h54 : mm_I M 54 t = nI (bsum (f 3) t)) : mm_E n xs N (d + 2) 58 [.ref 52, .int (nI t)] M = some (some (.int (nI (st0 - bsum (f 3) t))), M) := by
  obtain ⟨b7, bi, bst, bf⟩ := hb
  have w := bsum_le (f := f 3) (s := t) (b := 40) (fun i _ => bf 3 i)
  rw [u_X7_standsBehind, if_neg (nI_pos (by omega)), if_neg (show ¬ (128 : Int32) ≤ nI t from nI_ge (b := 128) ht (by omega))]
  simp only [mm_inb_nI ht (by omega), cond_true, nI_clamp (show t < 2 ^ 31 by omega), h54, h.2.2.1]
  (rw [E_max d M _ _, ra_I]; simp only [Option.bind_some])
  rw [i_max0 (by omega) (by omega)]
theorem E_it (hb : BF nm i0 st0 f) (h : CX nc nm i0 st0 f M) (d : Nat) {m w : Nat} (hm : m < nm) (h1 : 1 ≤ w) (hw : w < 4) : mm_E n xs N (d + 3) 94 [.ref 32, .int 2, .int (nI m), .int (nI w)] M = some (some (.int (nI (f w m))), M) := by
  have b7 := hb.1
  rw [E_minI d M m w (by omega) hw, h.2.1 m w hm h1 hw]
theorem E_canEnd (hb : BF nm i0 st0 f) (h : CX nc nm i0 st0 f M) (d : Nat) {s m : Nat} (hs : s < 128) (hm : m < nm) (hsm : s.testBit m = true) (hD : DX nm i0 st0 f M s) : mm_E n xs N (d + 4) 60 [.ref 52, .int (nI s), .int (nI m)] M = some (some (.int (mb (!decide (mm_I M 53 (s - 2 ^ m) = -1) && decide (f 2 m ≤ st0 - bsum (f 3) (s - 2 ^ m))))), M) := by
  have b7 := hb.1
  obtain ⟨r1, r2, r3, r4⟩ := rm_f s hs m (by omega) hsm
  have f2 := hb.2.2.2 2 m
  have st9 := hb.2.2.1
  rw [u_X7_canEnd, r1]
  (rw [E_lro (d + 2) M (t := s - 2 ^ m) (by omega), ra_I]; simp only [Option.bind_some])
  by_cases q : mm_I M 53 (s - 2 ^ m) = -1
  · rw [if_pos q, decide_eq_true q]; rfl
  · rw [if_neg q, decide_eq_false q]
    (rw [E_sb hb h (d + 1) (t := s - 2 ^ m) (by omega) (hD _ r2).1, ra_I]; simp only [Option.bind_some])
    (rw [(show mm_E n xs N (d + 3) 94 [.ref 32, .int 2, .int (nI m), .int 2] M = _ from E_it hb h d hm (w := 2) (by omega) (by omega)), ra_I]; simp only [Option.bind_some])
    by_cases q2 : f 2 m ≤ st0 - bsum (f 3) (s - 2 ^ m)
    · rw [if_neg (nI_nlt q2 (by omega)), decide_eq_true q2]; rfl
    · rw [if_pos (nI_lt (by omega) (by omega)), decide_eq_false q2]; rfl
/-- the least of those whose last is below i -/
def PLi (nm i0 st0 : Nat) (f : Nat → Nat → Nat) (s i : Nat) (v : Int32) : Prop := (v = -1 ∧ ∀ r1 m, m < i → s.testBit m = true → Fq nm i0 st0 (f 2) (f 3) r1 (s - 2 ^ m) → ¬ Fst nm i0 st0 (f 2) (f 3) (s - 2 ^ m) m) ∨ ∃ r, v = nI r ∧ Fq nm i0 st0 (f 2) (f 3) r s ∧ ∀ r1 m, m < i → s.testBit m = true → Fq nm i0 st0 (f 2) (f 3) r1 (s - 2 ^ m) → Fst nm i0 st0 (f 2) (f 3) (s - 2 ^ m) m → r ≤ 10 * r1 + m
theorem PLi_end (hb : BF nm i0 st0 f) {s : Nat} (hs0 : s ≠ 0) {v : Int32} (h : PLi nm i0 st0 f s nm v) : PL nm i0 st0 f s v := by
  have b7 := hb.1
  have key : ∀ r, Fq nm i0 st0 (f 2) (f 3) r s → ∃ r1 m, m < nm ∧ s.testBit m = true ∧ Fq nm i0 st0 (f 2) (f 3) r1 (s - 2 ^ m) ∧ Fst nm i0 st0 (f 2) (f 3) (s - 2 ^ m) m ∧ r = 10 * r1 + m := by
    intro r hr
    rcases Fq_last.mp hr with ⟨-, h0⟩ | ⟨r1, s1, m, a1, a2, a3, a4⟩
    · exact absurd h0 hs0
    · have hm := a2.1
      have h1 := (Fq_in b7 a1).2.1
      obtain ⟨c1, c2⟩ := ad_f s1 h1 m (by omega) a2.2.1
      rw [a4]
      exact ⟨r1, m, hm, c2, by rw [c1]; exact a1, by rw [c1]; exact a2, a3⟩
  rcases h with ⟨h1, h2⟩ | ⟨r, h1, h2, h3⟩
  · refine Or.inl ⟨h1, fun r hr => ?_⟩
    obtain ⟨r1, m, a1, a2, a3, a4, a5⟩ := key r hr
    exact h2 r1 m a1 a2 a3 a4
  · refine Or.inr ⟨r, h1, h2, fun r' hr' => ?_⟩
    obtain ⟨r1, m, a1, a2, a3, a4, a5⟩ := key r' hr'
    rw [a5]
    exact h3 r1 m a1 a2 a3 a4
/-- one step of the class's search for the last -/
theorem ll_out (d g : Nat) {s v : Int32} {i : Nat} (hR : RT M nc nm) (hi : nm ≤ i) (hi2 : i < 2 ^ 31) : lp_X7_leastRowTo n xs N (d + 2) (g + 1) 18 [some (.ref 52), some (.int s), some (.int v), some (.int (nI i)), none] [] M = some (some (.int v), M) := by
  rw [lu_X7_leastRowTo_18]
  (rw [hM2 d hR, ra_I, Option.bind_some]; dsimp only)
  rw [if_pos (nI_le hi hi2)]
theorem ll_0 (d g : Nat) {s v : Int32} {i : Nat} (hR : RT M nc nm) (hi : i < nm) (hs : ib s i = false) : lp_X7_leastRowTo n xs N (d + 2) (g + 1) 18 [some (.ref 52), some (.int s), some (.int v), some (.int (nI i)), none] [] M = lp_X7_leastRowTo n xs N (d + 2) g 18 [some (.ref 52), some (.int s), some (.int v), some (.int (nI (i + 1))), none] [] M := by
  have h7 := hR.2.1
  rw [lu_X7_leastRowTo_18]
  (rw [hM2 d hR, ra_I, Option.bind_some]; dsimp only)
  rw [if_neg (nI_ge hi (by omega)), if_pos (show ((s >>> (nI i &&& 31)) &&& 1) = 0 by rw [ib_ne]; exact hs), nI_1]
theorem ll_1 (d g : Nat) {s v : Int32} {i : Nat} (hR : RT M nc nm) (hi : i < nm) (hs : ib s i = true) (e : mm_E n xs N (d + 2) 60 [.ref 52, .int s, .int (nI i)] M = some (some (.int (mb false)), M)) : lp_X7_leastRowTo n xs N (d + 2) (g + 1) 18 [some (.ref 52), some (.int s), some (.int v), some (.int (nI i)), none] [] M = lp_X7_leastRowTo n xs N (d + 2) g 18 [some (.ref 52), some (.int s), some (.int v), some (.int (nI (i + 1))), none] [] M := by
  have h7 := hR.2.1
  rw [lu_X7_leastRowTo_18]
  (rw [hM2 d hR, ra_I, Option.bind_some]; dsimp only)
  rw [if_neg (nI_ge hi (by omega)), if_neg (show ¬ ((s >>> (nI i &&& 31)) &&& 1) = 0 by rw [ib_ne, hs]; decide), nI_1]
  (rw [e, ra_I, Option.bind_some]; dsimp only)
  rw [if_pos (show mb false = 0 by decide)]
theorem ll_2 (d g : Nat) {s v u : Int32} {i : Nat} (hR : RT M nc nm) (hi : i < nm) (hs : ib s i = true) (e : mm_E n xs N (d + 2) 60 [.ref 52, .int s, .int (nI i)] M = some (some (.int (mb true)), M)) (e2 : mm_E n xs N (d + 2) 56 [.ref 52, .int (s &&& (((1 : Int32) <<< (nI i &&& 31)) ^^^ -1))] M = some (some (.int u), M)) : lp_X7_leastRowTo n xs N (d + 2) (g + 1) 18 [some (.ref 52), some (.int s), some (.int v), some (.int (nI i)), none] [] M = lp_X7_leastRowTo n xs N (d + 2) g 18 [some (.ref 52), some (.int s), some (.int (if v = -1 then 10 * u + nI i else i_min v (10 * u + nI i))), some (.int (nI (i + 1))), none] [] M := by
  have h7 := hR.2.1
  rw [lu_X7_leastRowTo_18]
  (rw [hM2 d hR, ra_I, Option.bind_some]; dsimp only)
  rw [if_neg (nI_ge hi (by omega)), if_neg (show ¬ ((s >>> (nI i &&& 31)) &&& 1) = 0 by rw [ib_ne, hs]; decide), nI_1]
  (rw [e, ra_I, Option.bind_some]; dsimp only)
  rw [if_neg (show ¬ mb true = 0 by decide)]
  (rw [e2, ra_I, Option.bind_some]; dsimp only)
  by_cases q : v = -1
  · rw [if_pos q, if_pos q]
  · rw [if_neg q, if_neg q]
    rw [E_min (d + 1) M _ _, ra_I, Option.bind_some]
theorem L_lrt (hb : BF nm i0 st0 f) (h : CX nc nm i0 st0 f M) (d : Nat) {s : Nat} (hs : s < 128) (hs2 : s < 2 ^ nm) (hdis : s &&& i0 = 0) (hD : DX nm i0 st0 f M s) : ∀ (j i fu : Nat) (v : Int32), i + j = nm → j < fu → PLi nm i0 st0 f s i v → ∃ v', lp_X7_leastRowTo n xs N (d + 4) fu 18 [some (.ref 52), some (.int (nI s)), some (.int v), some (.int (nI i)), none] [] M = some (some (.int v'), M) ∧ PLi nm i0 st0 f s nm v' := by
  have b7 := hb.1
  have hR := h.1
  intro j
  induction j with
  | zero =>
    intro i fu v hij hf hv
    obtain ⟨fu, rfl⟩ : ∃ g, fu = g + 1 := ⟨fu - 1, by omega⟩
    refine ⟨v, ll_out (d + 2) fu hR (by omega) (by omega), ?_⟩
    rw [show nm = i by omega]
    have : i = nm := by omega
    subst this
    exact hv
  | succ j ih =>
    intro i fu v hij hf hv
    obtain ⟨fu, rfl⟩ : ∃ g, fu = g + 1 := ⟨fu - 1, by omega⟩
    have hib : ib (nI s) i = s.testBit i := ib_tb (by omega) (by omega)
    cases hsi : s.testBit i with
    | false =>
      rw [hsi] at hib
      rw [ll_0 (d + 2) fu hR (by omega) hib]
      refine ih (i + 1) fu v (by omega) (by omega) ?_
      rcases hv with ⟨h1, h2⟩ | ⟨r, h1, h2, h3⟩
      · refine Or.inl ⟨h1, fun r1 m hm hsm => ?_⟩
        by_cases q : m = i
        · subst q; rw [hsi] at hsm; cases hsm
        · exact h2 r1 m (by omega) hsm
      · refine Or.inr ⟨r, h1, h2, fun r1 m hm hsm => ?_⟩
        by_cases q : m = i
        · subst q; rw [hsi] at hsm; cases hsm
        · exact h3 r1 m (by omega) hsm
    | true =>
      rw [hsi] at hib
      obtain ⟨m1, m2, m3, m4⟩ := rm_f s hs i (by omega) hsi
      have e := E_canEnd (n := n) (xs := xs) (N := N) hb h d hs (show i < nm by omega) hsi hD
      have hP := (hD (s - 2 ^ i) m2).2.2
      have hi0 : i0.testBit i = false := by
        have := congrArg (fun x => Nat.testBit x i) hdis
        simp only [Nat.testBit_and, Nat.zero_testBit, hsi, Bool.true_and] at this
        exact this
      cases hc : (!decide (mm_I M 53 (s - 2 ^ i) = -1) && decide (f 2 i ≤ st0 - bsum (f 3) (s - 2 ^ i))) with
      | false =>
        rw [hc] at e
        rw [ll_1 (d + 2) fu hR (by omega) hib e]
        have hno : ∀ r1, Fq nm i0 st0 (f 2) (f 3) r1 (s - 2 ^ i) → ¬ Fst nm i0 st0 (f 2) (f 3) (s - 2 ^ i) i := by
          intro r1 hr1 hst
          rcases hP with ⟨p1, p2⟩ | ⟨r, p1, p2, p3⟩
          · exact p2 r1 hr1
          · have r9 := (Fq_in b7 p2).2.2.2.1
            rw [p1, decide_eq_false (nI_ne1 (show r < 2 ^ 31 by omega)), decide_eq_true hst.2.2.2] at hc
            cases hc
        refine ih (i + 1) fu v (by omega) (by omega) ?_
        rcases hv with ⟨h1, h2⟩ | ⟨r, h1, h2, h3⟩
        · refine Or.inl ⟨h1, fun r1 m hm hsm hr1 => ?_⟩
          by_cases q : m = i
          · subst q; exact hno r1 hr1
          · exact h2 r1 m (by omega) hsm hr1
        · refine Or.inr ⟨r, h1, h2, fun r1 m hm hsm hr1 hst => ?_⟩
          by_cases q : m = i
          · subst q; exact absurd hst (hno r1 hr1)
          · exact h3 r1 m (by omega) hsm hr1 hst
      | true =>
        rw [hc] at e
        simp only [Bool.and_eq_true, Bool.not_eq_true', decide_eq_true_eq, decide_eq_false_iff_not] at hc
        obtain ⟨c1, c2⟩ := hc
        rcases hP with ⟨p1, p2⟩ | ⟨r1, p1, p2, p3⟩
        · exact absurd p1 c1
        have hst : Fst nm i0 st0 (f 2) (f 3) (s - 2 ^ i) i := ⟨by omega, m3, hi0, c2⟩
        have hF : Fq nm i0 st0 (f 2) (f 3) (10 * r1 + i) s := by
          have := Fq_st p2 hst
          rw [← m4] at this
          exact this
        have r9 := (Fq_in b7 p2).2.2.2.1
        have c9 := (Fq_in b7 hF).2.2.2.1
        have e2 : mm_E n xs N (d + 4) 56 [.ref 52, .int (nI s &&& (((1 : Int32) <<< (nI i &&& 31)) ^^^ -1))] M = some (some (.int (nI r1)), M) := by
          rw [m1, E_lro (d + 3) M (by omega), p1]
        rw [ll_2 (d + 2) fu hR (by omega) hib e e2, show (10 : Int32) = nI 10 from rfl, pk_mul, nI_add]
        refine ih (i + 1) fu _ (by omega) (by omega) ?_
        rcases hv with ⟨h1, h2⟩ | ⟨r, h1, h2, h3⟩
        · rw [if_pos h1]
          refine Or.inr ⟨10 * r1 + i, rfl, hF, fun r1' m hm hsm hr1 hst' => ?_⟩
          by_cases q : m = i
          · subst q
            have := p3 r1' hr1
            omega
          · exact absurd hst' (h2 r1' m (by omega) hsm hr1)
        · have rr9 := (Fq_in b7 h2).2.2.2.1
          rw [if_neg (by rw [h1]; exact nI_ne1 (by omega)), h1, i_min_nI (by omega) (by omega)]
          refine Or.inr ⟨min r (10 * r1 + i), rfl, ?_, fun r1' m hm hsm hr1 hst' => ?_⟩
          · by_cases q : r ≤ 10 * r1 + i
            · rw [Nat.min_eq_left q]; exact h2
            · rw [Nat.min_eq_right (by omega)]; exact hF
          · by_cases q : m = i
            · subst q
              have := p3 r1' hr1
              omega
            · have := h3 r1' m (by omega) hsm hr1 hst'
              omega
theorem E_lrt (hN : 100 ≤ N) (hb : BF nm i0 st0 f) (h : CX nc nm i0 st0 f M) (d : Nat) {s : Nat} (hs0 : s ≠ 0) (hs2 : s < 2 ^ nm) (hD : DX nm i0 st0 f M s) : ∃ v, mm_E n xs N (d + 5) 59 [.ref 52, .int (nI s)] M = some (some (.int v), M) ∧ PL nm i0 st0 f s v := by
  have b7 := hb.1
  have h2 : (2 : Nat) ^ nm ≤ 2 ^ 7 := Nat.pow_le_pow_right (by omega) b7
  have i31 := hb.2.1
  have hand : s &&& i0 ≤ s := Nat.and_le_left
  rw [u_X7_leastRowTo, h.2.2.2, nI_and]
  simp only [nI_eq0 (show s &&& i0 < 2 ^ 31 by omega)]
  by_cases q : s &&& i0 = 0
  · rw [if_pos q]
    obtain ⟨v, e, hv⟩ := L_lrt (n := n) (xs := xs) (N := N) hb h d (by omega) hs2 q hD nm 0 N (-1) (by omega) (by omega) (Or.inl ⟨rfl, fun r1 m hm => by omega⟩)
    exact ⟨v, e, PLi_end hb hs0 hv⟩
  · rw [if_neg q]
    refine ⟨-1, rfl, Or.inl ⟨rfl, fun r hr => q ?_⟩⟩
    have hd := (Fq_in b7 hr).2.2.2.2.1
    apply Nat.eq_of_testBit_eq
    intro i
    rw [Nat.testBit_and, Nat.zero_testBit]
    cases hsi : s.testBit i with
    | false => rfl
    | true => rw [hd i hsi]; rfl
/-- the better of two sets -/
theorem E_bt (hb : BF nm i0 st0 f) (h : CX nc nm i0 st0 f M) (d : Nat) {s b r rb : Nat} (hs : s < 128) (hb1 : b < 128) (hr : r ≤ 9999999) (hrb : rb ≤ 9999999) (s54 : mm_I M 54 s = nI (bsum (f 3) s)) (s55 : mm_I M 55 s = nI (bsum (f 1) s)) (s53 : mm_I M 53 s = nI r) (b54 : mm_I M 54 b = nI (bsum (f 3) b)) (b55 : mm_I M 55 b = nI (bsum (f 1) b)) (b53 : mm_I M 53 b = nI rb) : mm_E n xs N (d + 3) 61 [.ref 52, .int (nI s), .int (nI b)] M = some (some (.int (mb (decide (KK st0 (f 3) (f 1) rb b < KK st0 (f 3) (f 1) r s)))), M) := by
  have hb0 := hb
  obtain ⟨b7, bi, bst, bf⟩ := hb
  have w1 := bsum_le (f := f 1) (s := s) (b := 40) (fun i _ => bf 1 i)
  have w2 := bsum_le (f := f 1) (s := b) (b := 40) (fun i _ => bf 1 i)
  have p1 := pcs_le s
  have p2 := pcs_le b
  have bc : ∀ t, t < 128 → mm_E n xs N (d + 2) 299 [.int (nI t)] M = some (some (.int (nI (pcs t))), M) := by
    intro t ht
    rw [u_J6_bitCount_0f7a4]
    show some (some (Value.int (bcn (nI t))), M) = _
    rw [bcn_pc t (by omega), pc_f t ht]
  have kl := KK_lt (cost := f 3) (worth := f 1) (s := b) (s' := s) bst hrb hr
  rw [u_X7_isBetter]
  (rw [E_vo (d + 1) M hs, ra_I, Option.bind_some]; dsimp only)
  (rw [E_vo (d + 1) M hb1, ra_I, Option.bind_some]; dsimp only)
  rw [s55, b55]
  simp only [sub_eq0 (show bsum (f 1) s ≤ 1000 by omega) (show bsum (f 1) b ≤ 1000 by omega)]
  by_cases q1 : bsum (f 1) s = bsum (f 1) b
  · rw [if_pos q1]
    (rw [E_sb hb0 h d hs s54, ra_I, Option.bind_some]; dsimp only)
    (rw [E_sb hb0 h d hb1 b54, ra_I, Option.bind_some]; dsimp only)
    simp only [sub_eq0 (show st0 - bsum (f 3) s ≤ 1000 by omega) (show st0 - bsum (f 3) b ≤ 1000 by omega)]
    by_cases q2 : st0 - bsum (f 3) s = st0 - bsum (f 3) b
    · rw [if_pos q2]
      (rw [bc s hs, ra_I, Option.bind_some]; dsimp only)
      (rw [bc b hb1, ra_I, Option.bind_some]; dsimp only)
      simp only [sub_eq0 (show pcs s ≤ 1000 by omega) (show pcs b ≤ 1000 by omega)]
      by_cases q3 : pcs s = pcs b
      · rw [if_pos q3]
        (rw [E_lro (d + 1) M hs, ra_I, Option.bind_some]; dsimp only)
        (rw [E_lro (d + 1) M hb1, ra_I, Option.bind_some]; dsimp only)
        rw [s53, b53]
        by_cases q4 : rb ≤ r
        · rw [if_pos (nI_le q4 (by omega)), decide_eq_false (fun w => by have := kl.mp w; omega)]; rfl
        · rw [if_neg (nI_ge (by omega) (by omega)), decide_eq_true (kl.mpr (by omega))]; rfl
      · rw [if_neg q3]
        by_cases q4 : pcs s < pcs b
        · rw [if_neg (show ¬ 0 ≤ nI (pcs s) - nI (pcs b) from fun w => by
            have := Int32.le_iff_toInt_le.mp w
            rw [pk_sub_toInt (by omega) (by omega), show (0 : Int32).toInt = 0 by decide] at this
            omega), decide_eq_true (kl.mpr (by omega))]; rfl
        · rw [if_pos (show 0 ≤ nI (pcs s) - nI (pcs b) from Int32.le_iff_toInt_le.mpr (by
            rw [pk_sub_toInt (by omega) (by omega), show (0 : Int32).toInt = 0 by decide]
            omega)), decide_eq_false (fun w => by have := kl.mp w; omega)]; rfl
    · rw [if_neg q2]
      by_cases q4 : st0 - bsum (f 3) b < st0 - bsum (f 3) s
      · rw [if_neg (show ¬ nI (st0 - bsum (f 3) s) - nI (st0 - bsum (f 3) b) ≤ 0 from fun w => by
          have := Int32.le_iff_toInt_le.mp w
          rw [pk_sub_toInt (by omega) (by omega), show (0 : Int32).toInt = 0 by decide] at this
          omega), decide_eq_true (kl.mpr (by omega))]; rfl
      · rw [if_pos (show nI (st0 - bsum (f 3) s) - nI (st0 - bsum (f 3) b) ≤ 0 from Int32.le_iff_toInt_le.mpr (by
          rw [pk_sub_toInt (by omega) (by omega), show (0 : Int32).toInt = 0 by decide]
          omega)), decide_eq_false (fun w => by have := kl.mp w; omega)]; rfl
  · rw [if_neg q1]
    by_cases q4 : bsum (f 1) b < bsum (f 1) s
    · rw [if_neg (show ¬ nI (bsum (f 1) s) - nI (bsum (f 1) b) ≤ 0 from fun w => by
        have := Int32.le_iff_toInt_le.mp w
        rw [pk_sub_toInt (by omega) (by omega), show (0 : Int32).toInt = 0 by decide] at this
        omega), decide_eq_true (kl.mpr (by omega))]; rfl
    · rw [if_pos (show nI (bsum (f 1) s) - nI (bsum (f 1) b) ≤ 0 from Int32.le_iff_toInt_le.mpr (by
        rw [pk_sub_toInt (by omega) (by omega), show (0 : Int32).toInt = 0 by decide]
        omega)), decide_eq_false (fun w => by have := kl.mp w; omega)]; rfl
/-- one set more -/
theorem bs_step (hN : 100 ≤ N) (hb : BF nm i0 st0 f) (h : CX nc nm i0 st0 f M) (d g : Nat) {s b rb : Nat} (hs0 : s ≠ 0) (hs2 : s < 2 ^ nm) (hbs : b < s) (hD : DX nm i0 st0 f M s) (h53 : mm_I M 53 b = nI rb) (hF : Fq nm i0 st0 (f 2) (f 3) rb b) (hmax : ∀ t r, t < s → Fq nm i0 st0 (f 2) (f 3) r t → KK st0 (f 3) (f 1) r t ≤ KK st0 (f 3) (f 1) rb b) : ∃ M' b' rb', lp_X7_bestSet n xs N (d + 5) (g + 1) 28 [some (.ref 52), some (.int (nI b)), some (.int (nI (2 ^ nm))), some (.int (nI s)), none, none] [] M = lp_X7_bestSet n xs N (d + 5) g 28 [some (.ref 52), some (.int (nI b')), some (.int (nI (2 ^ nm))), some (.int (nI (s + 1))), none, none] [] M' ∧ FR M M' ∧ DX nm i0 st0 f M' (s + 1) ∧ b' < s + 1 ∧ mm_I M' 53 b' = nI rb' ∧ Fq nm i0 st0 (f 2) (f 3) rb' b' ∧ ∀ t r, t < s + 1 → Fq nm i0 st0 (f 2) (f 3) r t → KK st0 (f 3) (f 1) r t ≤ KK st0 (f 3) (f 1) rb' b' := by
  have b7 := hb.1
  have h2 : (2 : Nat) ^ nm ≤ 2 ^ 7 := Nat.pow_le_pow_right (by omega) b7
  have s128 : s < 128 := by omega
  obtain ⟨l1, l2, l3, l4, l5, l6, l7⟩ := low_f s s128 hs0
  have lnm : lw s < nm := by
    apply Nat.lt_of_not_le
    intro q
    have : s < 2 ^ lw s := Nat.lt_of_lt_of_le hs2 (Nat.pow_le_pow_right (by omega) q)
    rw [Nat.testBit_lt_two_pow this] at l3
    cases l3
  have a3 : bsum (f 3) s = bsum (f 3) (tw s) + f 3 (lw s) := by
    have := bsum_add (f := f 3) l2 l6
    rw [← l7] at this
    exact this
  have a1 : bsum (f 1) s = bsum (f 1) (tw s) + f 1 (lw s) := by
    have := bsum_add (f := f 1) l2 l6
    rw [← l7] at this
    exact this
  have f1 : FR M (mm_wI M 54 s (nI (bsum (f 3) s))) := scr_w rfl (by decide) (by decide) (Or.inl hs0)
  have f2 : FR M (mm_wI (mm_wI M 54 s (nI (bsum (f 3) s))) 55 s (nI (bsum (f 1) s))) := f1.tr (scr_w rfl (by decide) (by decide) (Or.inl hs0))
  have D2 : DX nm i0 st0 f (mm_wI (mm_wI M 54 s (nI (bsum (f 3) s))) 55 s (nI (bsum (f 1) s))) s := by
    intro t ht
    obtain ⟨x1, x2, x3⟩ := hD t ht
    refine ⟨?_, ?_, ?_⟩
    · rw [I_wn (by decide), I_w, if_pos rfl, if_neg (by omega)]; exact x1
    · rw [I_w, if_pos rfl, if_neg (by omega), I_wn (by decide)]; exact x2
    · rw [I_wn (by decide), I_wn (by decide)]; exact x3
  obtain ⟨v, e4, hv⟩ := E_lrt (n := n) (xs := xs) (N := N) hN hb (h.fr f2) d hs0 hs2 D2
  have f3 : FR M (mm_wI (mm_wI (mm_wI M 54 s (nI (bsum (f 3) s))) 55 s (nI (bsum (f 1) s))) 53 s v) := f2.tr (scr_w rfl (by decide) (by decide) (Or.inl hs0))
  have D3 : DX nm i0 st0 f (mm_wI (mm_wI (mm_wI M 54 s (nI (bsum (f 3) s))) 55 s (nI (bsum (f 1) s))) 53 s v) (s + 1) := by
    intro t ht
    by_cases q : t = s
    · subst q
      refine ⟨?_, ?_, ?_⟩
      · rw [I_wn (by decide), I_wn (by decide), I_w, if_pos rfl, if_pos rfl]
      · rw [I_wn (by decide), I_w, if_pos rfl, if_pos rfl]
      · rw [I_w, if_pos rfl, if_pos rfl]; exact hv
    · obtain ⟨x1, x2, x3⟩ := D2 t (by omega)
      refine ⟨?_, ?_, ?_⟩
      · rw [I_wn (by decide)]; exact x1
      · rw [I_wn (by decide)]; exact x2
      · rw [I_w, if_pos rfl, if_neg q]; exact x3
  have v53 : mm_I (mm_wI (mm_wI (mm_wI M 54 s (nI (bsum (f 3) s))) 55 s (nI (bsum (f 1) s))) 53 s v) 53 s = v := by rw [I_w, if_pos rfl, if_pos rfl]
  have b53 : mm_I (mm_wI (mm_wI (mm_wI M 54 s (nI (bsum (f 3) s))) 55 s (nI (bsum (f 1) s))) 53 s v) 53 b = nI rb := by
    rw [I_w, if_pos rfl, if_neg (by omega), I_wn (by decide), I_wn (by decide)]; exact h53
  have step : lp_X7_bestSet n xs N (d + 5) (g + 1) 28 [some (.ref 52), some (.int (nI b)), some (.int (nI (2 ^ nm))), some (.int (nI s)), none, none] [] M = if v = -1 then lp_X7_bestSet n xs N (d + 5) g 28 [some (.ref 52), some (.int (nI b)), some (.int (nI (2 ^ nm))), some (.int (nI (s + 1))), none, none] [] (mm_wI (mm_wI (mm_wI M 54 s (nI (bsum (f 3) s))) 55 s (nI (bsum (f 1) s))) 53 s v) else (mm_aI (mm_E n xs N (d + 5) 61 [.ref 52, .int (nI s), .int (nI b)] (mm_wI (mm_wI (mm_wI M 54 s (nI (bsum (f 3) s))) 55 s (nI (bsum (f 1) s))) 53 s v))).bind fun p7 => if p7.1 = 0 then lp_X7_bestSet n xs N (d + 5) g 28 [some (.ref 52), some (.int (nI b)), some (.int (nI (2 ^ nm))), some (.int (nI (s + 1))), none, none] [] p7.2 else lp_X7_bestSet n xs N (d + 5) g 28 [some (.ref 52), some (.int (nI s)), some (.int (nI (2 ^ nm))), some (.int (nI (s + 1))), none, none] [] p7.2 := by
    rw [lu_X7_bestSet_28, if_neg (nI_ge hs2 (by omega)), E_ntz (d + 4) M (nI s), ra_I, Option.bind_some]
    dsimp only
    simp only [l1, l4, mm_inb_nI (show tw s < 128 by omega) (by omega), mm_inb_nI s128 (by omega), mm_ble (show 16 ≤ 54 by omega), mm_ble (show 16 ≤ 55 by omega), mm_ble (show 16 ≤ 53 by omega), Bool.and_self, cond_true, nI_clamp (show tw s < 2 ^ 31 by omega), nI_clamp (show s < 2 ^ 31 by omega)]
    rw [show (Value.int (3 : Int32)) = Value.int (nI 3) from rfl, show (Value.int (1 : Int32)) = Value.int (nI 1) from rfl, E_it hb h (d + 2) lnm (w := 3) (by omega) (by omega), ra_I, Option.bind_some]
    dsimp only
    rw [(hD (tw s) l5).1, nI_add, ← a3, E_it hb (h.fr f1) (d + 2) lnm (w := 1) (by omega) (by omega), ra_I, Option.bind_some]
    dsimp only
    rw [(hD (tw s) l5).2.1, nI_add, ← a1, e4, ra_I, Option.bind_some]
    dsimp only
    rw [v53, nI_1]
  rcases hv with ⟨v1, v2⟩ | ⟨r, v1, v2, v3⟩
  · refine ⟨_, b, rb, step.trans (if_pos v1), f3, D3, by omega, b53, hF, fun t r ht hr => ?_⟩
    by_cases q : t = s
    · subst q; exact absurd hr (v2 r)
    · exact hmax t r (by omega) hr
  · have r9 := (Fq_in b7 v2).2.2.2.1
    have rb9 := (Fq_in b7 hF).2.2.2.1
    have hbt := E_bt (n := n) (xs := xs) (N := N) hb (h.fr f3) (d + 2) (s := s) (b := b) (r := r) (rb := rb) s128 (by omega) r9 rb9 (D3 s (by omega)).1 (D3 s (by omega)).2.1 (v53.trans v1) (D3 b (by omega)).1 (D3 b (by omega)).2.1 b53
    have vne : ¬ v = -1 := by rw [v1]; exact nI_ne1 (by omega)
    rw [if_neg vne, hbt, ra_I, Option.bind_some] at step
    dsimp only at step
    by_cases q : KK st0 (f 3) (f 1) rb b < KK st0 (f 3) (f 1) r s
    · rw [decide_eq_true q, if_neg (show ¬ mb true = 0 by decide)] at step
      refine ⟨_, s, r, step, f3, D3, by omega, v53.trans v1, v2, fun t r' ht hr => ?_⟩
      by_cases q2 : t = s
      · subst q2
        have := v3 r' hr
        unfold KK
        omega
      · have := hmax t r' (by omega) hr
        omega
    · rw [decide_eq_false q, if_pos (show mb false = 0 by decide)] at step
      refine ⟨_, b, rb, step, f3, D3, by omega, b53, hF, fun t r' ht hr => ?_⟩
      by_cases q2 : t = s
      · subst q2
        have := v3 r' hr
        have h3 : KK st0 (f 3) (f 1) r' t ≤ KK st0 (f 3) (f 1) r t := by unfold KK; omega
        omega
      · exact hmax t r' (by omega) hr
theorem L_bs (hN : 100 ≤ N) (hb : BF nm i0 st0 f) (d : Nat) : ∀ (j s fu b rb : Nat) (M : mmM), s + j = 2 ^ nm → j < fu → s ≠ 0 → CX nc nm i0 st0 f M → b < s → DX nm i0 st0 f M s → mm_I M 53 b = nI rb → Fq nm i0 st0 (f 2) (f 3) rb b → (∀ t r, t < s → Fq nm i0 st0 (f 2) (f 3) r t → KK st0 (f 3) (f 1) r t ≤ KK st0 (f 3) (f 1) rb b) → ∃ M' b' rb', lp_X7_bestSet n xs N (d + 5) fu 28 [some (.ref 52), some (.int (nI b)), some (.int (nI (2 ^ nm))), some (.int (nI s)), none, none] [] M = some (some (.int (nI b')), M') ∧ FR M M' ∧ DX nm i0 st0 f M' (2 ^ nm) ∧ b' < 2 ^ nm ∧ mm_I M' 53 b' = nI rb' ∧ Fq nm i0 st0 (f 2) (f 3) rb' b' ∧ ∀ t r, t < 2 ^ nm → Fq nm i0 st0 (f 2) (f 3) r t → KK st0 (f 3) (f 1) r t ≤ KK st0 (f 3) (f 1) rb' b' := by
  have b7 := hb.1
  have h2 : (2 : Nat) ^ nm ≤ 2 ^ 7 := Nat.pow_le_pow_right (by omega) b7
  intro j
  induction j with
  | zero =>
    intro s fu b rb M hsj hf hs0 h hbs hD h53 hF hmax
    obtain ⟨fu, rfl⟩ : ∃ g, fu = g + 1 := ⟨fu - 1, by omega⟩
    have es : s = 2 ^ nm := by omega
    refine ⟨M, b, rb, ?_, FR.rf, ?_, ?_, h53, hF, ?_⟩
    · rw [lu_X7_bestSet_28, if_pos (nI_le (by omega) (by omega))]
    · rw [← es]; exact hD
    · rw [← es]; exact hbs
    · rw [← es]; exact hmax
  | succ j ih =>
    intro s fu b rb M hsj hf hs0 h hbs hD h53 hF hmax
    obtain ⟨fu, rfl⟩ : ∃ g, fu = g + 1 := ⟨fu - 1, by omega⟩
    obtain ⟨M1, b1, rb1, e1, f1, d1, x1, x2, x3, x4⟩ := bs_step (n := n) (xs := xs) (N := N) hN hb h d fu hs0 (by omega) hbs hD h53 hF hmax
    obtain ⟨M2, b2, rb2, e2, f2, d2, y1, y2, y3, y4⟩ := ih (s + 1) fu b1 rb1 M1 (by omega) (by omega) (by omega) (h.fr f1) x1 d1 x2 x3 x4
    exact ⟨M2, b2, rb2, e1.trans e2, f1.tr f2, d2, y1, y2, y3, y4⟩
theorem E_bs (hN : 200 ≤ N) (hb : BF nm i0 st0 f) (h : CX nc nm i0 st0 f M) (z54 : mm_I M 54 0 = 0) (z55 : mm_I M 55 0 = 0) (d : Nat) : ∃ M' b rb, mm_E n xs N (d + 6) 55 [.ref 52] M = some (some (.int (nI b)), M') ∧ FR M M' ∧ DX nm i0 st0 f M' (2 ^ nm) ∧ b < 2 ^ nm ∧ mm_I M' 53 b = nI rb ∧ Fq nm i0 st0 (f 2) (f 3) rb b ∧ ∀ t r, t < 2 ^ nm → Fq nm i0 st0 (f 2) (f 3) r t → KK st0 (f 3) (f 1) r t ≤ KK st0 (f 3) (f 1) rb b := by
  have b7 := hb.1
  have h2 : (2 : Nat) ^ nm ≤ 2 ^ 7 := Nat.pow_le_pow_right (by omega) b7
  have h1 := Nat.two_pow_pos nm
  have f0 : FR M (mm_wI M 53 0 0) := scr_w rfl (by decide) (by decide) (Or.inr (by decide))
  have F0 : ∀ r, Fq nm i0 st0 (f 2) (f 3) r 0 → r = 0 := by
    intro r hr
    have := (Fq_in b7 hr).2.2.1
    rw [show pcs 0 = 0 from bsum_0 _, Nat.pow_zero] at this
    omega
  have e53 : mm_I (mm_wI M 53 0 0) 53 0 = nI 0 := by rw [I_w, if_pos rfl, if_pos rfl, nI_0]
  obtain ⟨M', b, rb, e, x1, x2, x3, x4, x5, x6⟩ := L_bs (n := n) (xs := xs) (N := N) (by omega) hb d (2 ^ nm - 1) 1 N 0 0 (mm_wI M 53 0 0) (by omega) (by omega) (by omega) (h.fr f0) (by omega) (fun t ht => by
    rw [show t = 0 by omega, bsum_0, bsum_0]
    refine ⟨?_, ?_, ?_⟩
    · rw [I_wn (by decide), z54, nI_0]
    · rw [I_wn (by decide), z55, nI_0]
    · exact Or.inr ⟨0, e53, Fq_0, fun r' _ => Nat.zero_le _⟩) e53 Fq_0 (fun t r ht hr => by
    have ht0 : t = 0 := by omega
    subst ht0
    rw [F0 r hr]
    exact Nat.le_refl _)
  refine ⟨M', b, rb, ?_, f0.tr x1, x2, x3, x4, x5, x6⟩
  rw [u_X7_bestSet]
  (rw [hM2 (d + 3) h.1, ra_I, Option.bind_some]; dsimp only)
  rw [E_min (d + 4) M _ _, ra_I, Option.bind_some]
  dsimp only
  rw [sh_f nm (by omega)]
  exact e
end RX
