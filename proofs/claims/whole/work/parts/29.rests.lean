/-! rests -/
section GA
variable {n : Nat} {xs : Nat → Int32} {N : Nat} {gv : Int32 → Int32 → Int32 → Int32 → Int32} {M M' Mb : mmM} {nc nm : Nat}
theorem P_step (d : Nat) {c1 c2 x y f : Nat} (h : CT n xs N gv M nc nm) (h2 : c2 < nc) (hx : x < 6) (hy : y < 6) : ∃ M1, lp_X11_playAll n xs N (d + 9) (f + 1) 24 [some (.ref 16), some (.int (nI c1)), some (.int (nI c2)), some (.int (SB gv M c1 x)), some (.int (nI x)), some (.int (GV gv M c1 c2 x y)), some (.int (nI y)), none] [] M = lp_X11_playAll n xs N (d + 9) f 24 [some (.ref 16), some (.int (nI c1)), some (.int (nI c2)), some (.int (SB gv M c1 x)), some (.int (nI x)), some (.int (GV gv M c1 c2 x (y + 1))), some (.int (nI (y + 1))), none] [] M1 ∧ FR M M1 ∧ ∀ t, mm_I M1 59 t = if t = 6 * x + y then GV gv M c1 c2 x y else mm_I M 59 t := by
  have h4 := h.nc4
  have ep : nI x * 6 + nI y = nI (6 * x + y) := by rw [show (6 : Int32) = nI 6 from rfl, pk_mul, nI_add, Nat.mul_comm]
  have fw : FR M (mm_wI M 59 (6 * x + y) (GV gv M c1 c2 x y)) := ⟨rfl, rfl, rfl, rfl, fun a ha => I_wn (scr_ne ha rfl), fun k _ => by rw [I_wn (by decide)], fun k _ _ => by rw [I_wn (by decide)], fun a ha => by rw [I_wn (by omega)], rfl⟩
  have hw := h.mv fw
  have r37 : mm_I (mm_wI M 59 (6 * x + y) (GV gv M c1 c2 x y)) 37 = mm_I M 37 := I_wn (by decide)
  have r35 : mm_I (mm_wI M 59 (6 * x + y) (GV gv M c1 c2 x y)) 35 = mm_I M 35 := I_wn (by decide)
  obtain ⟨M1, e1, s1⟩ := E_wh hw d (w := mm_I M 37 c2) (s := GV gv M c1 c2 x y) (k := mm_I M 35 1 + nI x + nI y) (y := mm_I M 35 4) (h.w9 h2) (GV_bd h c1 c2 x y) (by rw [Int32.add_assoc, nI_add]; exact bd_add h.sk2 (by omega)) h.yk
  refine ⟨M1, ?_, fw.tr s1.fr, fun t => ?_⟩
  · rw [lu_X11_playAll_24, if_neg (show ¬ (6 : Int32) ≤ nI y from by rw [show (6 : Int32) = nI 6 from rfl]; exact nI_ge (by omega) (by omega)), ep, if_neg (show ¬ Int32.ofNat 36 ≤ nI (6 * x + y) from nI_ge (by omega) (by omega))]
    simp only [mm_inb_nI (show 6 * x + y < 36 by omega) (by omega), mm_ble (show 16 ≤ 59 by omega), Bool.and_self, cond_true, nI_clamp (show 6 * x + y < 2 ^ 31 by omega)]
    (rw [E_wristOf (d + 8) _ c2 (by omega), ra_I]; simp only [Option.bind_some])
    rw [r37, r35]
    (rw [e1, ra_I]; simp only [Option.bind_some])
    rw [nI_1, GV_succ]
  · rw [s1.I (by decide) (by decide), I_w, if_pos rfl]
theorem L_playI (d : Nat) (c1 c2 x : Nat) (hx : x < 6) : ∀ (j y f : Nat) (M : mmM), CT n xs N gv M nc nm → c1 < nc → c2 < nc → y + j = 6 → ∃ M1, lp_X11_playAll n xs N (d + 9) (f + j + 1) 24 [some (.ref 16), some (.int (nI c1)), some (.int (nI c2)), some (.int (SB gv M c1 x)), some (.int (nI x)), some (.int (GV gv M c1 c2 x y)), some (.int (nI y)), none] [] M = lp_X11_playAll n xs N (d + 9) f 11 [some (.ref 16), some (.int (nI c1)), some (.int (nI c2)), some (.int (SB gv M c1 (x + 1))), some (.int (nI (x + 1))), none, none, none] [] M1 ∧ FR M M1 ∧ ∀ t, mm_I M1 59 t = if 6 * x + y ≤ t ∧ t < 6 * x + 6 then GV gv M c1 c2 x (t - 6 * x) else mm_I M 59 t := by
  intro j
  induction j with
  | zero =>
    intro y f M h h1 h2 hy
    have h4 := h.nc4
    rw [Nat.add_zero, lu_X11_playAll_24, if_pos (show (6 : Int32) ≤ nI y from by rw [show (6 : Int32) = nI 6 from rfl]; exact nI_le (by omega) (by omega))]
    (rw [E_wristOf (d + 8) M c1 (by omega), ra_I]; simp only [Option.bind_some])
    obtain ⟨M1, e1, s1⟩ := E_wh1 h d h1 (t := x) (by omega)
    (rw [e1, ra_I]; simp only [Option.bind_some])
    refine ⟨M1, by rw [nI_1], s1.fr, fun t => ?_⟩
    rw [if_neg (by omega), s1.I (by decide) (by decide)]
  | succ j ih =>
    intro y f M h h1 h2 hy
    obtain ⟨M1, e1, f1, t1⟩ := P_step (f := f + j + 1) d (c1 := c1) h h2 hx (show y < 6 by omega)
    obtain ⟨M2, e2, f2, t2⟩ := ih (y + 1) f M1 (h.mv f1) h1 h2 (by omega)
    rw [SB_fr f1, GV_fr f1] at e2
    refine ⟨M2, ?_, f1.tr f2, fun t => ?_⟩
    · rw [show f + (j + 1) + 1 = (f + j + 1) + 1 by omega, e1, e2]
    · rw [t2 t, GV_fr f1, t1]
      by_cases q : t = 6 * x + y
      · subst q
        rw [if_neg (by omega), if_pos rfl, if_pos (by omega), show 6 * x + y - 6 * x = y by omega]
      · rw [if_neg q]
        by_cases q2 : 6 * x + (y + 1) ≤ t ∧ t < 6 * x + 6
        · rw [if_pos q2, if_pos (by omega)]
        · rw [if_neg q2, if_neg (by omega)]
theorem L_playO (d : Nat) (c1 c2 : Nat) : ∀ (j x f : Nat) (M : mmM), CT n xs N gv M nc nm → c1 < nc → c2 < nc → x + j = 6 → ∃ M1, lp_X11_playAll n xs N (d + 9) (f + 8 * j + 1) 11 [some (.ref 16), some (.int (nI c1)), some (.int (nI c2)), some (.int (SB gv M c1 x)), some (.int (nI x)), none, none, none] [] M = some (none, M1) ∧ FR M M1 ∧ ∀ t, mm_I M1 59 t = if 6 * x ≤ t ∧ t < 36 then GV gv M c1 c2 (t / 6) (t % 6) else mm_I M 59 t := by
  intro j
  induction j with
  | zero =>
    intro x f M h h1 h2 hx
    rw [Nat.mul_zero, Nat.add_zero, lu_X11_playAll_11, if_pos (show (6 : Int32) ≤ nI x from by rw [show (6 : Int32) = nI 6 from rfl]; exact nI_le (by omega) (by omega))]
    exact ⟨M, rfl, FR.rf, fun t => by rw [if_neg (by omega)]⟩
  | succ j ih =>
    intro x f M h h1 h2 hx
    rw [show f + 8 * (j + 1) + 1 = ((f + 8 * j + 1) + 6 + 1) + 1 by omega, lu_X11_playAll_11, if_neg (show ¬ (6 : Int32) ≤ nI x from by rw [show (6 : Int32) = nI 6 from rfl]; exact nI_ge (by omega) (by omega))]
    obtain ⟨M1, e1, f1, t1⟩ := L_playI d c1 c2 x (by omega) 6 0 (f + 8 * j + 1) M h h1 h2 (by omega)
    obtain ⟨M2, e2, f2, t2⟩ := ih (x + 1) f M1 (h.mv f1) h1 h2 (by omega)
    rw [SB_fr f1] at e2
    rw [GV_0, nI_0] at e1
    refine ⟨M2, by rw [e1, e2], f1.tr f2, fun t => ?_⟩
    rw [t2 t, GV_fr f1, t1 t]
    by_cases q : 6 * (x + 1) ≤ t ∧ t < 36
    · rw [if_pos q, if_pos (by omega)]
    · rw [if_neg q]
      by_cases q2 : 6 * x + 0 ≤ t ∧ t < 6 * x + 6
      · rw [if_pos q2, if_pos (by omega), show t / 6 = x by omega, show t % 6 = t - 6 * x by omega]
      · rw [if_neg q2, if_neg (by omega)]
theorem E_quarter (d : Nat) (M : mmM) {x y : Nat} (hx : x < 6) (hy : y < 6) : mm_E n xs N (d + 2) 162 [.ref 16, .int (nI x), .int (nI y)] M = some (some (.int (mm_I M 59 (6 * x + y) / 4)), M) := by
  have ep : nI x * 6 + nI y = nI (6 * x + y) := by rw [show (6 : Int32) = nI 6 from rfl, pk_mul, nI_add, Nat.mul_comm]
  rw [u_X11_quarterOf, ep]
  (rw [E_isWithin d M _ _ _, ra_I]; simp only [Option.bind_some])
  have hw : wi 0 (nI (6 * x + y)) (Int32.ofNat 36 - 1) = true := by
    unfold wi
    simp only [Bool.and_eq_true, decide_eq_true_eq]
    exact ⟨nI_pos' (by omega), by rw [show Int32.ofNat 36 - 1 = nI 35 from rfl]; exact nI_le (by omega) (by omega)⟩
  rw [hw, if_neg (show ¬ mb true = 0 by decide)]
  simp only [c40, if_false, mm_inb_nI (show 6 * x + y < 36 by omega) (by omega), cond_true, nI_clamp (show 6 * x + y < 2 ^ 31 by omega)]
theorem L_restX (d : Nat) {q : Nat → Nat → Int32} {x y : Nat} (hx : x < 6) (hy : y < 6) (hq : ∀ a b, a < 6 → b < 6 → mm_I M 59 (6 * a + b) / 4 = q a b) : ∀ (j k f : Nat), k + j = 6 → j < f → lp_X11_isRest n xs N (d + 2) f 10 [some (.ref 16), some (.int (nI x)), some (.int (nI y)), some (.int (q x y)), some (.int (nI k))] [] M = some (some (.int (mb (rst q x y j k))), M) := by
  intro j
  induction j with
  | zero =>
    intro k f hk hf
    obtain ⟨f, rfl⟩ : ∃ g, f = g + 1 := ⟨f - 1, by omega⟩
    rw [lu_X11_isRest_10, if_pos (show (6 : Int32) ≤ nI k from by rw [show (6 : Int32) = nI 6 from rfl]; exact nI_le (by omega) (by omega))]
    rfl
  | succ j ih =>
    intro k f hk hf
    obtain ⟨f, rfl⟩ : ∃ g, f = g + 1 := ⟨f - 1, by omega⟩
    rw [lu_X11_isRest_10, if_neg (show ¬ (6 : Int32) ≤ nI k from by rw [show (6 : Int32) = nI 6 from rfl]; exact nI_ge (by omega) (by omega))]
    (rw [E_quarter d M (show k < 6 by omega) hy, ra_I]; simp only [Option.bind_some])
    rw [hq k y (by omega) hy]
    unfold rst
    by_cases g1 : q x y - nI x < q k y - nI k
    · rw [if_pos g1, if_pos g1]
      rfl
    · rw [if_neg g1, if_neg g1]
      (rw [E_quarter d M hx (show k < 6 by omega), ra_I]; simp only [Option.bind_some])
      rw [hq x k hx (by omega)]
      by_cases g2 : q x k - nI k ≤ q x y - nI y
      · rw [if_pos g2, if_pos g2, nI_1, ih (k + 1) f (by omega) (by omega)]
      · rw [if_neg g2, if_neg g2]
        rfl
theorem E_restX (hN : 10 ≤ N) (d : Nat) {q : Nat → Nat → Int32} {x y : Nat} (hx : x < 6) (hy : y < 6) (hq : ∀ a b, a < 6 → b < 6 → mm_I M 59 (6 * a + b) / 4 = q a b) : mm_E n xs N (d + 3) 163 [.ref 16, .int (nI x), .int (nI y)] M = some (some (.int (mb (rst q x y 6 0))), M) := by
  rw [u_X11_isRest]
  (rw [E_quarter d M hx hy, ra_I]; simp only [Option.bind_some])
  rw [hq x y hx hy]
  exact L_restX d hx hy hq 6 0 N (by omega) (by omega)
theorem L_restM (d : Nat) {c1 c2 x y : Nat} (hx : x < 6) (hy : y < 6) : ∀ (j k f : Nat) (M : mmM), CT n xs N gv M nc nm → c1 < nc → c2 < nc → k + j = 6 → j < f → ∃ M1, lp_X12_isRest n xs N (d + 12) f 3 [some (.ref 60), some (.int (nI c1)), some (.int (nI c2)), some (.int (nI x)), some (.int (nI y)), some (.int (nI k))] [] M = some (some (.int (mb (rst (fun a b => GV gv M c1 c2 a b / 4) x y j k))), M1) ∧ SM M M1 := by
  intro j
  induction j with
  | zero =>
    intro k f M h h1 h2 hk hf
    obtain ⟨f, rfl⟩ : ∃ g, f = g + 1 := ⟨f - 1, by omega⟩
    rw [lu_X12_isRest_3, if_pos (show (6 : Int32) ≤ nI k from by rw [show (6 : Int32) = nI 6 from rfl]; exact nI_le (by omega) (by omega))]
    exact ⟨M, rfl, SM.rf⟩
  | succ j ih =>
    intro k f M h h1 h2 hk hf
    obtain ⟨f, rfl⟩ : ∃ g, f = g + 1 := ⟨f - 1, by omega⟩
    rw [lu_X12_isRest_3, if_neg (show ¬ (6 : Int32) ≤ nI k from by rw [show (6 : Int32) = nI 6 from rfl]; exact nI_ge (by omega) (by omega))]
    obtain ⟨M1, e1, s1⟩ := E_gameOf h d h1 h2 (show k ≤ 5 by omega) (show y ≤ 5 by omega) 0
    (rw [e1, ra_I]; simp only [Option.bind_some])
    obtain ⟨M2, e2, s2⟩ := E_gameOf (h.sm s1) d h1 h2 (show x ≤ 5 by omega) (show y ≤ 5 by omega) 0
    rw [GV_fr s1.fr] at e2
    (rw [e2, ra_I]; simp only [Option.bind_some])
    have s12 := s1.tr s2
    unfold rst
    simp only [if_true]
    by_cases g1 : GV gv M c1 c2 x y / 4 - nI x < GV gv M c1 c2 k y / 4 - nI k
    · simp only [g1, if_true]
      exact ⟨M2, rfl, s12⟩
    · simp only [g1, if_false]
      obtain ⟨M3, e3, s3⟩ := E_gameOf (h.sm s12) d h1 h2 (show x ≤ 5 by omega) (show k ≤ 5 by omega) 1
      rw [GV_fr s12.fr] at e3
      (rw [e3, ra_I]; simp only [Option.bind_some])
      have s13 := s12.tr s3
      obtain ⟨M4, e4, s4⟩ := E_gameOf (h.sm s13) d h1 h2 (show x ≤ 5 by omega) (show y ≤ 5 by omega) 1
      rw [GV_fr s13.fr] at e4
      (rw [e4, ra_I]; simp only [Option.bind_some])
      have s14 := s13.tr s4
      simp only [c10, if_false]
      by_cases g2 : GV gv M c1 c2 x k / 4 - nI k ≤ GV gv M c1 c2 x y / 4 - nI y
      · simp only [g2, if_true]
        obtain ⟨M5, e5, s5⟩ := ih (k + 1) f M4 (h.sm s14) h1 h2 (by omega) (by omega)
        rw [GV_fr s14.fr] at e5
        rw [nI_1, e5]
        exact ⟨M5, rfl, s14.tr s5⟩
      · simp only [g2, if_false]
        exact ⟨M4, rfl, s14⟩
theorem E_restM (h : CT n xs N gv M nc nm) (d : Nat) {c1 c2 x y : Nat} (h1 : c1 < nc) (h2 : c2 < nc) (hx : x < 6) (hy : y < 6) : ∃ M1, mm_E n xs N (d + 13) 284 [.ref 60, .int (nI c1), .int (nI c2), .int (nI x), .int (nI y)] M = some (some (.int (mb (rst (fun a b => GV gv M c1 c2 a b / 4) x y 6 0))), M1) ∧ SM M M1 := by
  have hN := h.nN
  rw [u_X12_isRest]
  exact L_restM d hx hy 6 0 N M h h1 h2 (by omega) (by omega)
def rsP (gv : Int32 → Int32 → Int32 → Int32 → Int32) (M : mmM) (c1 c2 : Nat) (i : Nat) : Bool := rst (fun a b => GV gv M c1 c2 a b / 4) (i / 6) (i % 6) 6 0
theorem rsP_fr (f : FR M M') : rsP gv M' = rsP gv M := by
  funext c1 c2 i
  unfold rsP
  rw [GV_fr f]
theorem dm6 {i : Nat} (hi : i < 36) : nI i / 6 = nI (i / 6) ∧ nI i - nI i / 6 * 6 = nI (i % 6) ∧ (10 : Int32) * nI (i / 6) + nI (i % 6) = nI (10 * (i / 6) + i % 6) := by
  refine ⟨?_, ?_, ?_⟩
  · rw [show (6 : Int32) = nI 6 from rfl, pk_div (by omega) (by omega) (by omega)]
  · rw [show (6 : Int32) = nI 6 from rfl, pk_rem (by omega) (by omega) (by omega)]
  · rw [show (10 : Int32) = nI 10 from rfl, pk_mul, nI_add]
theorem c60 : ((6 : Int32) = 0) = False := by simp
theorem L_restsX (d : Nat) (v : Int32) {c1 c2 : Nat} {Mg : mmM} (hN : 10 ≤ N) (hq : ∀ a b, a < 6 → b < 6 → mm_I M 59 (6 * a + b) / 4 = GV gv Mg c1 c2 a b / 4) : ∀ (j i m f : Nat), i + j = 36 → j < f → lp_X11_rests n xs N (d + 3) f 23 [some (.ref 16), none, none, some (.int v), some (.int (nI m)), some (.int (nI i)), none, none] [] M = some (some (.int (rsL (rsP gv Mg c1 c2) (fun i => nI (10 * (i / 6) + i % 6)) v j i m)), M) := by
  intro j
  induction j with
  | zero =>
    intro i m f hi hf
    obtain ⟨f, rfl⟩ : ∃ g, f = g + 1 := ⟨f - 1, by omega⟩
    rw [lu_X11_rests_23, if_pos (show Int32.ofNat 36 ≤ nI i from nI_le (by omega) (by omega))]
    unfold rsL
    split <;> rfl
  | succ j ih =>
    intro i m f hi hf
    obtain ⟨f, rfl⟩ : ∃ g, f = g + 1 := ⟨f - 1, by omega⟩
    rw [lu_X11_rests_23, if_neg (show ¬ Int32.ofNat 36 ≤ nI i from nI_ge (by omega) (by omega))]
    simp only [c60, if_false]
    obtain ⟨d1, d2, d3⟩ := dm6 (show i < 36 by omega)
    rw [d1] at d2 ⊢
    rw [d2]
    (rw [E_restX hN d (show i / 6 < 6 by omega) (show i % 6 < 6 by omega) hq, ra_I]; simp only [Option.bind_some])
    unfold rsL
    have ep : rst (fun a b => GV gv Mg c1 c2 a b / 4) (i / 6) (i % 6) 6 0 = rsP gv Mg c1 c2 i := rfl
    rw [ep]
    cases hp : rsP gv Mg c1 c2 i with
    | false =>
      rw [if_pos (show mb false = 0 by decide), if_neg (by decide), nI_1, ih (i + 1) m f (by omega) (by omega)]
    | true =>
      rw [if_neg (show ¬ mb true = 0 by decide), if_pos rfl, d3]
      by_cases g : nI m = v
      · rw [if_pos g, if_pos g]
      · rw [if_neg g, if_neg g, nI_1, nI_1, ih (i + 1) (m + 1) f (by omega) (by omega)]
theorem L_restsM (d : Nat) (v : Int32) {c1 c2 : Nat} : ∀ (j i m f : Nat) (M : mmM), CT n xs N gv M nc nm → c1 < nc → c2 < nc → i + j = 36 → j < f → ∃ M1, lp_X12_rests n xs N (d + 13) f 22 [some (.ref 60), some (.int (nI c1)), some (.int (nI c2)), some (.int v), some (.int (nI m)), some (.int (nI i))] [] M = some (some (.int (rsL (rsP gv M c1 c2) (fun i => nI (10 * (i / 6) + i % 6)) v j i m)), M1) ∧ SM M M1 := by
  intro j
  induction j with
  | zero =>
    intro i m f M h h1 h2 hi hf
    obtain ⟨f, rfl⟩ : ∃ g, f = g + 1 := ⟨f - 1, by omega⟩
    rw [lu_X12_rests_22, if_pos (show (36 : Int32) ≤ nI i from by rw [show (36 : Int32) = nI 36 from rfl]; exact nI_le (by omega) (by omega))]
    unfold rsL
    refine ⟨M, ?_, SM.rf⟩
    split <;> rfl
  | succ j ih =>
    intro i m f M h h1 h2 hi hf
    obtain ⟨f, rfl⟩ : ∃ g, f = g + 1 := ⟨f - 1, by omega⟩
    rw [lu_X12_rests_22, if_neg (show ¬ (36 : Int32) ≤ nI i from by rw [show (36 : Int32) = nI 36 from rfl]; exact nI_ge (by omega) (by omega))]
    simp only [c60, if_false]
    obtain ⟨d1, d2, d3⟩ := dm6 (show i < 36 by omega)
    rw [d1] at d2 ⊢
    rw [d2]
    obtain ⟨M1, e1, s1⟩ := E_restM h d h1 h2 (show i / 6 < 6 by omega) (show i % 6 < 6 by omega)
    (rw [e1, ra_I]; simp only [Option.bind_some])
    unfold rsL
    have ep : rst (fun a b => GV gv M c1 c2 a b / 4) (i / 6) (i % 6) 6 0 = rsP gv M c1 c2 i := rfl
    rw [ep]
    cases hp : rsP gv M c1 c2 i with
    | false =>
      obtain ⟨M2, e2, s2⟩ := ih (i + 1) m f M1 (h.sm s1) h1 h2 (by omega) (by omega)
      rw [rsP_fr s1.fr] at e2
      rw [if_pos (show mb false = 0 by decide), if_neg (by decide), nI_1, e2]
      exact ⟨M2, rfl, s1.tr s2⟩
    | true =>
      rw [if_neg (show ¬ mb true = 0 by decide), if_pos rfl, d3]
      by_cases g : nI m = v
      · rw [if_pos g, if_pos g]
        exact ⟨M1, rfl, s1⟩
      · obtain ⟨M2, e2, s2⟩ := ih (i + 1) (m + 1) f M1 (h.sm s1) h1 h2 (by omega) (by omega)
        rw [rsP_fr s1.fr] at e2
        rw [if_neg g, if_neg g, nI_1, nI_1, e2]
        exact ⟨M2, rfl, s1.tr s2⟩
theorem Q_rests (h : CT n xs N gv M nc nm) (d : Nat) (a b v : Int32) : QQ n xs N (d + 60) M 160 [.ref 16, .int a, .int b, .int v] 285 [.ref 60, .int a, .int b, .int v] := by
  have h4 := h.nc4
  have hN := h.nN
  unfold QQ
  rw [u_X11_rests]
  simp only [u_X12_rests]
  (rw [E_hasTwo (d + 55) h.1, ra_I]; simp only [Option.bind_some])
  cases hk : c2 nc a b with
  | false =>
    refine ⟨-1, M, M, rfl, FR.rf, ?_, FR.rf⟩
    (rw [E_areTwo (d + 56) h.1, ra_I]; simp only [Option.bind_some])
    rw [hk]
    rfl
  | true =>
    obtain ⟨i, j, hi, hj, hij, rfl, rfl⟩ := c2_t h4 hk
    rw [if_neg (show ¬ mb true = 0 by decide)]
    obtain ⟨M1, e1, f1, t1⟩ := L_playO (n := n) (xs := xs) (N := N) (d + 49) i j 6 0 (N - 49) M h hi hj (by omega)
    have e1' : mm_E n xs N (d + 59) 161 [.ref 16, .int (nI i), .int (nI j)] M = some (none, M1) := by
      rw [show N - 49 + 8 * 6 + 1 = N by omega, SB_0, nI_0] at e1
      rw [u_X11_playAll, e1]
    (rw [e1', ra_V]; simp only [Option.bind_some])
    have hq : ∀ a b, a < 6 → b < 6 → mm_I M1 59 (6 * a + b) / 4 = GV gv M i j a b / 4 := by
      intro a b ha hb
      rw [t1, if_pos (by omega), show (6 * a + b) / 6 = a by omega, show (6 * a + b) % 6 = b by omega]
    have l1 := L_restsX (n := n) (xs := xs) (N := N) (M := M1) (d + 56) v (by omega) hq 36 0 0 N (by omega) (by omega)
    have h' := h.mv f1
    by_cases hv : -1 ≤ v
    · obtain ⟨M2, e2, s2⟩ := L_restsM (d + 46) v 36 0 0 N M1 h' hi hj (by omega) (by omega)
      refine ⟨_, M1, M2, l1, f1, ?_, s2.fr⟩
      (rw [E_areTwo (d + 56) h'.1, ra_I]; simp only [Option.bind_some])
      rw [hk, if_neg (show ¬ mb true = 0 by decide), if_pos hv]
      refine e2.trans ?_
      rw [rsP_fr f1]
    · refine ⟨_, M1, M1, l1, f1, ?_, FR.rf⟩
      (rw [E_areTwo (d + 56) h'.1, ra_I]; simp only [Option.bind_some])
      rw [hk, if_neg (show ¬ mb true = 0 by decide), if_neg hv, rsL_lo hv _ _ _ (by omega)]
end GA
