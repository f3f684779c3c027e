/-! a duchy is read, by the class: items, clauses, all -/
section DV
variable {n : Nat} {xs : Nat → Int32} {N : Nat} {M M' M1 M2 : mmM} {T : Nat → Int32} {s a b kd : Nat}
theorem vlP_ge {k : Nat} {q : Nat × Nat} (has : a ≤ s) (h : vlP T s kd k a = .inr q) : a < q.1 ∧ q.1 ≤ s ∧ q.2 < 100 := by
  have hb := sk_le (T := T) has
  have hg := sk_ge T s a
  unfold vlP at h
  by_cases g : dg (cu T s (sk T s a)) = true
  · rw [if_pos g] at h
    have hlt : sk T s a < s := by
      apply Decidable.byContradiction
      intro w
      rw [cu_out (by omega), dg_m1] at g
      cases g
    have e5 : nmF T s 2 (sk T s a) 0 = nmF T s 1 (sk T s a + 1) (10 * 0 + ((cu T s (sk T s a)).toNatClampNeg - 48)) := by
      show (if dg (cu T s (sk T s a)) = true then _ else _) = _
      rw [if_pos g]
    have g1 := (nmF_ge T s 1 (sk T s a + 1) (10 * 0 + ((cu T s (sk T s a)).toNatClampNeg - 48)) (by omega))
    have gv := nmF_v T s 2 (sk T s a) 0
    rw [← e5] at g1
    split at h
    · cases h
    · split at h
      · cases h; exact ⟨by omega, by omega, by omega⟩
      · cases h
  · rw [if_neg g] at h
    cases h
theorem itL_s (T : Nat → Int32) (s kd g f a fnd : Nat) (v : Nat → Int32) : itL T s kd g (f + 1) a fnd v = match itN kd (cu T s (sk T s a)) with
    | none => .inr (sk T s a, v)
    | some k => if fnd.testBit k = true then .inl (sk T s a) else match vlP T s kd k (sk T s a + 1) with
      | .inl p => .inl p
      | .inr q => itL T s kd g f q.1 (fnd ||| 2 ^ k) (upV v (g + k) (nI q.2)) := rfl
theorem it_in {k : Nat} (h : kd < 3) (e : itN kd (cu T s b) = some k) : k < pl_w kd ∧ b < s := by
  have := itF_lt (pl_w kd) 0 k e
  refine ⟨by omega, cu_lt this.2.2.symm ?_⟩
  exact tb8 _ (fiK10 h (by omega))
theorem itL_ge {g : Nat} : ∀ (f a fnd : Nat) (v : Nat → Int32) (q : Nat × (Nat → Int32)), kd < 3 → a ≤ s → itL T s kd g f a fnd v = .inr q → a ≤ q.1 ∧ q.1 ≤ s
  | 0, a, fnd, v, q, _, has, h => by cases h; exact ⟨Nat.le_refl _, has⟩
  | f + 1, a, fnd, v, q, h3, has, h => by
    have hb := sk_le (T := T) has
    have hg := sk_ge T s a
    rw [itL_s] at h
    cases e : itN kd (cu T s (sk T s a)) with
    | none => rw [e] at h; cases h; exact ⟨hg, hb⟩
    | some k =>
      rw [e] at h
      dsimp only at h
      obtain ⟨-, hlt⟩ := it_in h3 e
      split at h
      · cases h
      · cases e2 : vlP T s kd k (sk T s a + 1) with
        | inl p => rw [e2] at h; cases h
        | inr r =>
          rw [e2] at h
          obtain ⟨g1, g2, -⟩ := vlP_ge (by omega) e2
          have := itL_ge f r.1 _ _ q h3 g2 h
          omega
/-- what the items do, by the class -/
theorem L_itX (hN : 1000 ≤ N) (d : Nat) (h : kd < 3) {i : Nat} (hi : i < pl_m kd) : ∀ (g a fnd c f : Nat) (M : mmM), XTp M T s → mm_I M 17 2 = nI a → a ≤ s → s - a < g → s - a < f → c + (s - a) ≤ 240 → fnd < 16 → (∀ p, itL T s kd (plK kd i) g a fnd (mm_I M 21) = .inl p → ∃ M1, lp_X2_isClauseNext n xs N (d + 6) f 50 [some (.ref 19), some (.int (nI kd)), some (.int (nI i)), some (.int (nI fnd)), some (.int (nI c)), none] [] M = some (some (.int 0), M1) ∧ DXf M M1 ∧ mm_I M1 17 2 = nI p) ∧ ∀ q, itL T s kd (plK kd i) g a fnd (mm_I M 21) = .inr q → ∃ M1, lp_X2_isClauseNext n xs N (d + 6) f 50 [some (.ref 19), some (.int (nI kd)), some (.int (nI i)), some (.int (nI fnd)), some (.int (nI c)), none] [] M = some (some (.int 1), M1) ∧ DXf M M1 ∧ mm_I M1 17 2 = nI q.1 ∧ mm_I M1 22 = mm_I M 22 ∧ mm_I M1 21 = q.2 := by
  intro g
  induction g with
  | zero => intro a fnd c f M _ _ _ hg; omega
  | succ g ih =>
    intro a fnd c f M hT ha has hg hf hc h16
    obtain ⟨f, rfl⟩ : ∃ g, f = g + 1 := ⟨f - 1, by omega⟩
    have h4 := pl_w4 kd
    obtain ⟨M1, e1, x1⟩ := E_lookX (n := n) (xs := xs) (N := N) hN (d + 5) hT ha has
    have hT1 := hT.xt x1
    have hb := sk_le (T := T) has
    have hge := sk_ge T s a
    have hs := hT.1
    have m21 : mm_I M1 21 = mm_I M 21 := x1.I (by decide)
    have m22 : mm_I M1 22 = mm_I M 22 := x1.I (by decide)
    have ei := E_itemBy (n := n) (xs := xs) (N := N) (by omega) (d + 3) M1 h (cu T s (sk T s a))
    have pre : ∀ R, (if oI (itN kd (cu T s (sk T s a))) = (-1 : Int32) then some (some (Value.int 1), M1) else (if ((nI fnd >>> (oI (itN kd (cu T s (sk T s a))) &&& 31)) &&& (1 : Int32)) = 0 then ((mm_aV (mm_E n xs N (d + 6) 77 [.ref 17] M1)).bind fun p8 => ((mm_aI (mm_E n xs N (d + 6) 15 [.ref 19, .int (nI kd), .int (nI i), .int (oI (itN kd (cu T s (sk T s a))))] p8)).bind fun p9 => (if p9.1 = 0 then some (some (Value.int 0), p9.2) else lp_X2_isClauseNext n xs N (d + 6) f 50 [some (.ref 19), some (.int (nI kd)), some (.int (nI i)), some (.int (nI fnd ||| ((1 : Int32) <<< (oI (itN kd (cu T s (sk T s a))) &&& 31)))), some (.int (nI (c + 1))), none] [] p9.2))) else some (some (Value.int 0), M1))) = R → lp_X2_isClauseNext n xs N (d + 6) (f + 1) 50 [some (.ref 19), some (.int (nI kd)), some (.int (nI i)), some (.int (nI fnd)), some (.int (nI c)), none] [] M = R := by
      intro R hR
      rw [← hR, lu_X2_isClauseNext_50, if_neg (show ¬ (240 : Int32) < nI c from nI_nlt (a := 240) (by omega) (by omega)), e1, ra_I, Option.bind_some]
      dsimp only
      rw [ei, ra_I, Option.bind_some, nI_1]
    rw [itL_s]
    cases e : itN kd (cu T s (sk T s a)) with
    | none =>
      rw [e] at pre
      refine ⟨fun p hp => (by cases hp), fun q hq => ?_⟩
      cases hq
      refine ⟨M1, pre _ ?_, x1.dx, x1.pl, m22, m21⟩
      rw [if_pos (show oI none = -1 from rfl)]
    | some k =>
      rw [e] at pre
      obtain ⟨hk, hlt⟩ := it_in h e
      have ek : oI (some k) = nI k := rfl
      rw [ek] at pre
      rw [if_neg (nI_ne1 (by omega))] at pre
      have eb : (((nI fnd >>> (nI k &&& 31)) &&& (1 : Int32)) = 0) = (fnd.testBit k = false) := by rw [ib_ne, ib_tb (by omega) (by omega)]
      simp only [eb] at pre
      dsimp only
      cases hbit : fnd.testBit k with
      | true =>
        rw [hbit] at pre
        rw [if_pos rfl]
        refine ⟨fun p hp => ?_, fun q hq => by cases hq⟩
        cases hp
        refine ⟨M1, pre _ ?_, x1.dx, x1.pl⟩
        rw [if_neg (by decide)]
      | false =>
        rw [hbit] at pre
        rw [if_neg (show ¬ false = true by decide)]
        have x2 : XT M (mm_wI M1 17 2 (nI (sk T s a + 1))) (sk T s a + 1) := x1.tr XT.w
        have es : mm_E n xs N (d + 6) 77 [.ref 17] M1 = some (none, mm_wI M1 17 2 (nI (sk T s a + 1))) := by rw [u_X9_step, x1.pl, nI_1]
        obtain ⟨v1, v2⟩ := E_valX (n := n) (xs := xs) (N := N) hN d h hi hk (hT.xt x2) x2.pl (show sk T s a + 1 ≤ s by omega)
        cases e2 : vlP T s kd k (sk T s a + 1) with
        | inl p =>
          obtain ⟨M3, e3, x3⟩ := v1 p e2
          refine ⟨fun p' hp => ?_, fun q hq => by cases hq⟩
          cases hp
          refine ⟨M3, pre _ ?_, (x2.tr x3).dx, x3.pl⟩
          rw [if_pos rfl, es, ra_V, Option.bind_some, e3, ra_I, Option.bind_some]
          rfl
        | inr r =>
          obtain ⟨M3, e3, x3, p3, c3, r3⟩ := v2 r e2
          obtain ⟨g1, g2, g3⟩ := vlP_ge (by omega) e2
          have f16 : fnd ||| 2 ^ k < 16 := lt_or (k := 4) h16 (by omega)
          have i1 := ih r.1 (fnd ||| 2 ^ k) (c + 1) f M3 ((hT.xt x2).dx x3) p3 (by omega) (by omega) (by omega) (by omega) f16
          rw [r3, x2.I (show 21 ≠ 17 by decide)] at i1
          have pre2 : ∀ R, lp_X2_isClauseNext n xs N (d + 6) f 50 [some (.ref 19), some (.int (nI kd)), some (.int (nI i)), some (.int (nI (fnd ||| 2 ^ k))), some (.int (nI (c + 1))), none] [] M3 = R → lp_X2_isClauseNext n xs N (d + 6) (f + 1) 50 [some (.ref 19), some (.int (nI kd)), some (.int (nI i)), some (.int (nI fnd)), some (.int (nI c)), none] [] M = R := by
            intro R hR
            refine pre R ?_
            rw [if_pos rfl, es, ra_V, Option.bind_some, e3, ra_I, Option.bind_some]
            dsimp only
            rw [if_neg (by decide), shl1 (by omega), nI_or]
            exact hR
          refine ⟨fun p hp => ?_, fun q hq => ?_⟩
          · obtain ⟨M4, e4, x4, p4⟩ := i1.1 p hp
            exact ⟨M4, pre2 _ e4, (x2.dx.tr x3).tr x4, p4⟩
          · obtain ⟨M4, e4, x4, p4, c4, r4⟩ := i1.2 q hq
            exact ⟨M4, pre2 _ e4, (x2.dx.tr x3).tr x4, p4, by rw [c4, c3, x2.I (by decide)], r4⟩
/-- counts as the class has them -/
def MX (M : mmM) (m : Nat → Nat) : Prop := ∀ k, k < 3 → mm_I M 22 k = nI (m k) ∧ m k ≤ pl_m k
theorem kd_in {k : Nat} (e : kdN (cu T s b) = some k) : k < 3 ∧ b < s ∧ cu T s b = mm_tb 7 k := by
  have := kdF_lt 3 0 k e
  have t7 : ∀ x, x < 3 → mm_tb 7 x ≠ -1 := by decide
  exact ⟨by omega, cu_lt this.2.2.symm (t7 k (by omega)), this.2.2.symm⟩
theorem E_clX (hN : 1000 ≤ N) (d : Nat) {m : Nat → Nat} (hT : XTp M T s) (ha : mm_I M 17 2 = nI a) (has : a ≤ s) (hm : MX M m) : (∀ p, clP T s a m (mm_I M 21) = .inl p → ∃ M1, mm_E n xs N (d + 7) 14 [.ref 19] M = some (some (.int 0), M1) ∧ DXf M M1 ∧ mm_I M1 17 2 = nI p) ∧ ∀ q, clP T s a m (mm_I M 21) = .inr q → ∃ M1, mm_E n xs N (d + 7) 14 [.ref 19] M = some (some (.int 1), M1) ∧ DXf M M1 ∧ mm_I M1 17 2 = nI q.1 ∧ MX M1 q.2.1 ∧ mm_I M1 21 = q.2.2 ∧ a < q.1 ∧ q.1 ≤ s := by
  obtain ⟨M1, e1, x1⟩ := E_lookX (n := n) (xs := xs) (N := N) hN (d + 5) hT ha has
  have hb := sk_le (T := T) has
  have hge := sk_ge T s a
  have hs := hT.1
  have ei := E_kindBy (n := n) (xs := xs) (N := N) (by omega) (d + 5) M1 (cu T s (sk T s a))
  unfold clP
  cases e : kdN (cu T s (sk T s a)) with
  | none =>
    rw [e] at ei
    refine ⟨fun p hp => ?_, fun q hq => by cases hq⟩
    cases hp
    refine ⟨M1, ?_, x1.dx, x1.pl⟩
    rw [u_X2_isClauseNext, e1, ra_I, Option.bind_some]
    dsimp only
    rw [ei, ra_I, Option.bind_some]
    rfl
  | some k =>
    rw [e] at ei
    obtain ⟨h3, hlt, -⟩ := kd_in e
    obtain ⟨mk, ml⟩ := hm k h3
    have h8 := pl_m8 k
    have ef := E_full20 (n := n) (xs := xs) (N := N) (d + 4) M1 h3 (m := m k) (by rw [x1.I (by decide)]; exact mk) (by omega)
    have pre : ∀ R, (if mb (!decide (m k < pl_m k)) = 0 then ((mm_aV (mm_E n xs N (d + 6) 77 [.ref 17] M1)).bind fun p4 => ((mm_aI (mm_E n xs N (d + 6) 91 [.ref 20, .int (nI k)] p4)).bind fun p5 => (lp_X2_isClauseNext n xs N (d + 6) N 50 [some (.ref 19), some (.int (nI k)), some (.int p5.1), some (.int (0 : Int32)), some (.int (0 : Int32)), none] [] p5.2))) else some (some (Value.int 0), M1)) = R → mm_E n xs N (d + 7) 14 [.ref 19] M = R := by
      intro R hR
      rw [← hR, u_X2_isClauseNext, e1, ra_I, Option.bind_some]
      dsimp only
      rw [ei, ra_I, Option.bind_some]
      dsimp only
      rw [show oI (some k) = nI k from rfl, if_neg (nI_ne1 (by omega)), ef, ra_I, Option.bind_some]
    dsimp only
    by_cases w : m k < pl_m k
    · rw [decide_eq_true w] at pre
      rw [if_pos w]
      have x2 : XT M (mm_wI M1 17 2 (nI (sk T s a + 1))) (sk T s a + 1) := x1.tr XT.w
      have es : mm_E n xs N (d + 6) 77 [.ref 17] M1 = some (none, mm_wI M1 17 2 (nI (sk T s a + 1))) := by rw [u_X9_step, x1.pl, nI_1]
      have mk2 : mm_I (mm_wI M1 17 2 (nI (sk T s a + 1))) 22 k = nI (m k) := by rw [x2.I (by decide)]; exact mk
      obtain ⟨M3, e3, s3, r3⟩ := E_fw (n := n) (xs := xs) (N := N) (by omega) (d + 1) (mm_wI (mm_wI M1 17 2 (nI (sk T s a + 1))) 22 k (nI (m k + 1))) h3 w
      have ea : mm_E n xs N (d + 6) 91 [.ref 20, .int (nI k)] (mm_wI M1 17 2 (nI (sk T s a + 1))) = some (some (.int (nI (m k))), M3) := by
        rw [u_X10_add_20, E_full20 (d + 3) _ h3 (m := m k) mk2 (by omega), decide_eq_true w, ra_I, Option.bind_some]
        dsimp only
        rw [if_pos (show mb (!true) = 0 by decide), mm_inb_nI h3 (by omega), mm_ble (show 16 ≤ 22 by omega), Bool.and_self, cond_true, cond_true, cond_true, nI_clamp (by omega), mk2, nI_1, e3, ra_V, Option.bind_some]
      have D3 : DXf M M3 := (x2.dx.tr DXf.w22).tr (DXf.s21 s3)
      have p3 : mm_I M3 17 2 = nI (sk T s a + 1) := by rw [s3.I (by decide), I_wn (by decide)]; exact x2.pl
      have r3' : mm_I M3 21 = dfl k (m k) (mm_I M 21) := by rw [r3, I_wn (by decide), x2.I (by decide)]
      have c3 : ∀ q, mm_I M3 22 q = if q = k then nI (m k + 1) else mm_I M 22 q := fun q => by rw [s3.I (by decide), I_s, x2.I (by decide)]
      have hL := L_itX (n := n) (xs := xs) (N := N) hN d h3 w (s + 1) (sk T s a + 1) 0 0 N M3 (hT.dx D3) p3 (by omega) (by omega) (by omega) (by omega) (by omega)
      rw [r3', nI_0] at hL
      have pre2 : ∀ R, lp_X2_isClauseNext n xs N (d + 6) N 50 [some (.ref 19), some (.int (nI k)), some (.int (nI (m k))), some (.int (0 : Int32)), some (.int (0 : Int32)), none] [] M3 = R → mm_E n xs N (d + 7) 14 [.ref 19] M = R := by
        intro R hR
        refine pre R ?_
        rw [if_pos (show mb (!true) = 0 by decide), es, ra_V, Option.bind_some, ea, ra_I, Option.bind_some]
        exact hR
      cases e5 : itL T s k (plK k (m k)) (s + 1) (sk T s a + 1) 0 (dfl k (m k) (mm_I M 21)) with
      | inl p =>
        obtain ⟨M4, e4, x4, p4⟩ := hL.1 p e5
        refine ⟨fun p' hp => ?_, fun q hq => by cases hq⟩
        cases hp
        exact ⟨M4, pre2 _ e4, D3.tr x4, p4⟩
      | inr r =>
        obtain ⟨M4, e4, x4, p4, c4, r4⟩ := hL.2 r e5
        refine ⟨fun p' hp => (by cases hp), fun q hq => ?_⟩
        cases hq
        have := itL_ge (s + 1) (sk T s a + 1) 0 _ r h3 (by omega) e5
        refine ⟨M4, pre2 _ e4, D3.tr x4, p4, fun q hq => ?_, r4, by dsimp only; omega, by dsimp only; omega⟩
        rw [c4, c3 q]
        show _ = nI (if q = k then m k + 1 else m q) ∧ (if q = k then m k + 1 else m q) ≤ pl_m q
        by_cases w2 : q = k
        · rw [if_pos w2, if_pos w2, w2]
          exact ⟨rfl, by omega⟩
        · rw [if_neg w2, if_neg w2]
          exact hm q hq
    · rw [decide_eq_false w] at pre
      rw [if_neg w]
      refine ⟨fun p hp => ?_, fun q hq => by cases hq⟩
      cases hp
      refine ⟨M1, pre _ ?_, x1.dx, x1.pl⟩
      rw [if_neg (show ¬ mb (!false) = 0 by decide)]
theorem duP_s (T : Nat → Int32) (s f a : Nat) (m : Nat → Nat) (v : Nat → Int32) : duP T s (f + 1) a m v = match clP T s a m v with
    | .inl p => .inl p
    | .inr q => if cu T s (sk T s q.1) = 59 then duP T s f (sk T s q.1 + 1) q.2.1 q.2.2 else if cu T s (sk T s q.1) = -1 ∧ 0 < q.2.1 1 ∧ 0 < q.2.1 2 then .inr q.2 else .inl (sk T s q.1) := rfl
theorem L_duX (hN : 1000 ≤ N) (d : Nat) : ∀ (g a c f : Nat) (m : Nat → Nat) (M : mmM), XTp M T s → mm_I M 17 2 = nI a → a ≤ s → s - a < g → s - a < f → c + (s - a) ≤ 240 → MX M m → (∀ p, duP T s g a m (mm_I M 21) = .inl p → ∃ M1, lp_X2_firstFault n xs N (d + 7) f 16 [some (.ref 19), some (.int (nI c))] [] M = some (some (.int (nI p)), M1) ∧ DXf M M1) ∧ ∀ q, duP T s g a m (mm_I M 21) = .inr q → ∃ M1, lp_X2_firstFault n xs N (d + 7) f 16 [some (.ref 19), some (.int (nI c))] [] M = some (some (.int (-1)), M1) ∧ DXf M M1 ∧ MX M1 q.1 ∧ mm_I M1 21 = q.2 := by
  intro g
  induction g with
  | zero => intro a c f m M _ _ _ hg; omega
  | succ g ih =>
    intro a c f m M hT ha has hg hf hc hm
    obtain ⟨f, rfl⟩ : ∃ g, f = g + 1 := ⟨f - 1, by omega⟩
    have hs := hT.1
    obtain ⟨c1, c2⟩ := E_clX (n := n) (xs := xs) (N := N) hN d hT ha has hm
    have n240 : ¬ (240 : Int32) < nI c := nI_nlt (a := 240) (by omega) (by omega)
    rw [duP_s]
    cases e : clP T s a m (mm_I M 21) with
    | inl p =>
      obtain ⟨M1, e1, x1, p1⟩ := c1 p e
      refine ⟨fun p' hp => ?_, fun q hq => by cases hq⟩
      cases hp
      refine ⟨M1, ?_, x1⟩
      rw [lu_X2_firstFault_16, if_neg n240, e1, ra_I, Option.bind_some]
      dsimp only
      rw [if_pos rfl, u_X9_at, p1, ra_I, Option.bind_some]
    | inr r =>
      obtain ⟨M1, e1, x1, p1, m1, r1, g1, g2⟩ := c2 r e
      have hT1 := hT.dx x1
      obtain ⟨M2, e2, x2⟩ := E_takeS (n := n) (xs := xs) (N := N) hN (d + 5) hT1 p1 g2 59
      have hb := sk_le (T := T) g2
      have hge := sk_ge T s r.1
      have m22 : mm_I M2 22 = mm_I M1 22 := x2.I (by decide)
      have m21 : mm_I M2 21 = mm_I M1 21 := x2.I (by decide)
      dsimp only
      by_cases w : cu T s (sk T s r.1) = 59
      · rw [if_pos w]
        rw [if_pos w] at x2
        rw [decide_eq_true w] at e2
        have hlt := cu_lt w (by decide)
        have i1 := ih (sk T s r.1 + 1) (c + 1) f r.2.1 M2 (hT1.xt x2) x2.pl (by omega) (by omega) (by omega) (by omega) (fun k hk => by rw [m22]; exact m1 k hk)
        rw [m21, r1] at i1
        have pre : ∀ R, lp_X2_firstFault n xs N (d + 7) f 16 [some (.ref 19), some (.int (nI (c + 1)))] [] M2 = R → lp_X2_firstFault n xs N (d + 7) (f + 1) 16 [some (.ref 19), some (.int (nI c))] [] M = R := by
          intro R hR
          rw [← hR, lu_X2_firstFault_16, if_neg n240, e1, ra_I, Option.bind_some]
          dsimp only
          rw [if_neg (by decide), e2, ra_I, Option.bind_some]
          dsimp only
          rw [if_neg (show ¬ mb true = 0 by decide), nI_1]
        refine ⟨fun p hp => ?_, fun q hq => ?_⟩
        · obtain ⟨M4, e4, x4⟩ := i1.1 p hp
          exact ⟨M4, pre _ e4, (x1.tr x2.dx).tr x4⟩
        · obtain ⟨M4, e4, x4, p4, c4⟩ := i1.2 q hq
          exact ⟨M4, pre _ e4, (x1.tr x2.dx).tr x4, p4, c4⟩
      · rw [if_neg w]
        rw [if_neg w] at x2
        rw [decide_eq_false w] at e2
        obtain ⟨M3, e3, x3⟩ := E_lookX (n := n) (xs := xs) (N := N) hN (d + 6) (hT1.xt x2) x2.pl hb
        have hsk : sk T s (sk T s r.1) = sk T s r.1 := by
          have : ∀ (j a : Nat), a + j = s → skF T (s - skF T j a) (skF T j a) = skF T j a := by
            intro j
            induction j with
            | zero => intro a h; show skF T (s - a) a = a; rw [show s - a = 0 by omega]; rfl
            | succ j ih2 =>
              intro a h
              rw [skF_s]
              by_cases q : T a = 32
              · rw [if_pos q]; exact ih2 (a + 1) (by omega)
              · rw [if_neg q, show s - a = j + 1 by omega, skF_s, if_neg q]
          exact this (s - r.1) r.1 (by omega)
        rw [hsk] at e3 x3
        have k1 := (m1 1 (by omega)).1
        have k2 := (m1 2 (by omega)).1
        have l1 := (m1 1 (by omega)).2
        have l2 := (m1 2 (by omega)).2
        have h81 := pl_m8 1
        have h82 := pl_m8 2
        have eh1 : mm_E n xs N (d + 7) 86 [.ref 20, .int 1] M2 = some (some (.int (nI (r.2.1 1))), M2) := by
          have := E_howM20 (n := n) (xs := xs) (N := N) (d + 5) M2 (kd := 1) (by omega)
          rw [m22, k1] at this
          exact this
        have eh2 : mm_E n xs N (d + 7) 86 [.ref 20, .int 2] M2 = some (some (.int (nI (r.2.1 2))), M2) := by
          have := E_howM20 (n := n) (xs := xs) (N := N) (d + 5) M2 (kd := 2) (by omega)
          rw [m22, k2] at this
          exact this
        have eat : mm_E n xs N (d + 7) 75 [.ref 17] M3 = some (some (.int (nI (sk T s r.1))), M3) := by rw [u_X9_at, x3.pl]
        have fr : DXf M M3 := (x1.tr x2.dx).tr x3.dx
        have n22 : mm_I M3 22 = mm_I M1 22 := (x3.I (by decide)).trans m22
        have n21 : mm_I M3 21 = r.2.2 := ((x3.I (by decide)).trans m21).trans r1
        have key : lp_X2_firstFault n xs N (d + 7) (f + 1) 16 [some (.ref 19), some (.int (nI c))] [] M = some (some (.int (if cu T s (sk T s r.1) = -1 ∧ 0 < r.2.1 1 ∧ 0 < r.2.1 2 then -1 else nI (sk T s r.1))), M3) := by
          rw [lu_X2_firstFault_16, if_neg n240, e1, ra_I, Option.bind_some]
          dsimp only
          rw [if_neg (by decide), e2, ra_I, Option.bind_some]
          dsimp only
          rw [if_pos (show mb false = 0 by decide), eh1, ra_I, Option.bind_some]
          dsimp only
          by_cases z1 : r.2.1 1 = 0
          · rw [if_neg (show ¬ (cu T s (sk T s r.1) = -1 ∧ 0 < r.2.1 1 ∧ 0 < r.2.1 2) from fun w => by omega), if_pos (show nI (r.2.1 1) ≤ 0 by rw [z1]; decide), e3, ra_I, Option.bind_some]
            dsimp only
            by_cases q : cu T s (sk T s r.1) = -1
            · rw [if_pos q, if_pos rfl, eat, ra_I, Option.bind_some]
            · rw [if_neg q, eat, ra_I, Option.bind_some]
          · rw [if_neg (nI_nle (by omega) (by omega)), eh2, ra_I, Option.bind_some]
            dsimp only
            by_cases z2 : r.2.1 2 = 0
            · rw [if_neg (show ¬ (cu T s (sk T s r.1) = -1 ∧ 0 < r.2.1 1 ∧ 0 < r.2.1 2) from fun w => by omega), if_pos (show nI (r.2.1 2) ≤ 0 by rw [z2]; decide), e3, ra_I, Option.bind_some]
              dsimp only
              by_cases q : cu T s (sk T s r.1) = -1
              · rw [if_pos q, if_pos rfl, eat, ra_I, Option.bind_some]
              · rw [if_neg q, eat, ra_I, Option.bind_some]
            · rw [if_neg (nI_nle (by omega) (by omega)), e3, ra_I, Option.bind_some]
              dsimp only
              by_cases q : cu T s (sk T s r.1) = -1
              · rw [if_pos q, if_neg (by decide), if_pos ⟨q, by omega, by omega⟩]
              · rw [if_neg q, eat, ra_I, Option.bind_some, if_neg (fun w => q w.1)]
        by_cases q : cu T s (sk T s r.1) = -1 ∧ 0 < r.2.1 1 ∧ 0 < r.2.1 2
        · rw [if_pos q] at key ⊢
          refine ⟨fun p hp => (by cases hp), fun q' hq => ?_⟩
          cases hq
          exact ⟨M3, key, fr, fun k hk => by rw [n22]; exact m1 k hk, n21⟩
        · rw [if_neg q] at key ⊢
          refine ⟨fun p hp => ?_, fun q' hq => by cases hq⟩
          cases hp
          exact ⟨M3, key, fr⟩
/-- the whole reading of the class -/
theorem E_duX (hN : 1000 ≤ N) (d : Nat) (hT : XTp M T s) : (∀ p, duP T s (s + 1) 0 (fun _ => 0) (dfl 0 0 (mm_I M 21)) = .inl p → ∃ M1, mm_E n xs N (d + 8) 13 [.ref 19] M = some (some (.int (nI p)), M1) ∧ DXf M M1) ∧ ∀ q, duP T s (s + 1) 0 (fun _ => 0) (dfl 0 0 (mm_I M 21)) = .inr q → ∃ M1, mm_E n xs N (d + 8) 13 [.ref 19] M = some (some (.int (-1)), M1) ∧ DXf M M1 ∧ MX M1 q.1 ∧ mm_I M1 21 = q.2 := by
  have hs := hT.1
  obtain ⟨M1, s1, a1, e1⟩ := E_fillG (n := n) (xs := xs) (N := N) (a := 22) (L := 3) (by omega) (by omega) (fun _ => rfl) hN (d + 5) M
  obtain ⟨M2, e2, s2, r2⟩ := E_fw (n := n) (xs := xs) (N := N) (by omega) (d + 2) M1 (kd := 0) (by omega) (i := 0) (by decide)
  have ec : mm_E n xs N (d + 7) 84 [.ref 20] M = some (none, M2) := by
    rw [nI_0] at e2
    rw [u_X10_clear_20, e1, ra_V, Option.bind_some, e2, ra_V, Option.bind_some]
  have er : mm_E n xs N (d + 7) 74 [.ref 17] M2 = some (none, mm_wI M2 17 2 0) := u_X9_rewind n xs N (d + 6) M2
  have D2 : DXf M (mm_wI M2 17 2 0) := ((DXf.s22 s1).tr (DXf.s21 s2)).tr (XT.w (a := 0)).dx
  have c22 : ∀ q, q < 3 → mm_I (mm_wI M2 17 2 0) 22 q = 0 := fun q hq => by rw [I_wn (by decide), s2.I (by decide), a1 q, if_pos hq]
  have c21 : mm_I (mm_wI M2 17 2 0) 21 = dfl 0 0 (mm_I M 21) := by rw [I_wn (by decide), r2, s1.I (by decide)]
  have hL := L_duX (n := n) (xs := xs) (N := N) hN d (s + 1) 0 0 N (fun _ => 0) (mm_wI M2 17 2 0) (hT.dx D2) (by rw [I_s, if_pos rfl]; rfl) (by omega) (by omega) (by omega) (by omega) (fun k hk => ⟨by rw [c22 k hk]; rfl, Nat.zero_le _⟩)
  rw [c21, nI_0] at hL
  have pre : ∀ R, lp_X2_firstFault n xs N (d + 7) N 16 [some (.ref 19), some (.int 0)] [] (mm_wI M2 17 2 0) = R → mm_E n xs N (d + 8) 13 [.ref 19] M = R := by
    intro R hR
    rw [u_X2_firstFault, ec, ra_V, Option.bind_some, er, ra_V, Option.bind_some]
    exact hR
  refine ⟨fun p hp => ?_, fun q hq => ?_⟩
  · obtain ⟨M3, e3, x3⟩ := hL.1 p hp
    exact ⟨M3, pre _ e3, D2.tr x3⟩
  · obtain ⟨M3, e3, x3, m3, r3⟩ := hL.2 q hq
    exact ⟨M3, pre _ e3, D2.tr x3, m3, r3⟩
end DV
