/-! games of two cooks -/
/-- how it stands behind x strokes of the one and y of the other -/
def GV (gv : Int32 → Int32 → Int32 → Int32 → Int32) (M : mmM) (c1 c2 x y : Nat) : Int32 := stks gv (mm_I M 37 c2) (mm_I M 35 1 + nI x) (mm_I M 35 4) 0 y (SB gv M c1 x)
def rst (q : Nat → Nat → Int32) (x y : Nat) : Nat → Nat → Bool
  | 0, _ => true
  | j + 1, k => if q x y - nI x < q k y - nI k then false else if q x k - nI k ≤ q x y - nI y then rst q x y j (k + 1) else false
def rsL (p : Nat → Bool) (a : Nat → Int32) (x : Int32) : Nat → Nat → Nat → Int32
  | 0, _, m => if x = -1 then nI m else -1
  | j + 1, i, m => if p i = true then (if nI m = x then a i else rsL p a x j (i + 1) (m + 1)) else rsL p a x j (i + 1) m
theorem rsL_lo {p : Nat → Bool} {a : Nat → Int32} {x : Int32} (hx : ¬ -1 ≤ x) : ∀ (j i m : Nat), m + j < 2 ^ 31 → rsL p a x j i m = -1
  | 0, i, m, _ => by
    unfold rsL
    rw [if_neg (fun q => hx (by rw [q]; decide))]
  | j + 1, i, m, h => by
    unfold rsL
    rw [rsL_lo hx j (i + 1) m (by omega), rsL_lo hx j (i + 1) (m + 1) (by omega), if_neg (show ¬ nI m = x from fun q => hx (by rw [← q]; exact Int32.le_trans (by decide) (nI_pos' (by omega))))]
    split <;> rfl
section GA
variable {n : Nat} {xs : Nat → Int32} {N : Nat} {gv : Int32 → Int32 → Int32 → Int32 → Int32} {M M' Mb : mmM} {nc nm : Nat}
theorem GV_fr (f : FR M M') : GV gv M' = GV gv M := by
  funext c1 c2 x y
  unfold GV
  rw [SB_fr f, f.I (show scr 37 = false by decide), f.I (show scr 35 = false by decide)]
theorem GV_succ (c1 c2 x y : Nat) : GV gv M c1 c2 x (y + 1) = stk gv (mm_I M 37 c2) (GV gv M c1 c2 x y) (mm_I M 35 1 + nI x + nI y) (mm_I M 35 4) := by
  unfold GV stks
  rw [foldI_succ, Nat.zero_add]
theorem GV_0 (c1 c2 x : Nat) : GV gv M c1 c2 x 0 = SB gv M c1 x := by
  unfold GV stks
  rw [foldI]
theorem SB_0 (c : Nat) : SB gv M c 0 = mm_I M 35 0 := by
  unfold SB stks
  rw [foldI]
theorem GV_bd (h : CT n xs N gv M nc nm) (c1 c2 x y : Nat) : bd 0 99 (GV gv M c1 c2 x y) := by
  cases y with
  | zero => rw [GV_0]; exact SB_bd h c1 x
  | succ y => rw [GV_succ]; exact stk_bd _ _ _ _
theorem nwj_c {c b : Nat} (hc : c < 4) (hb : b < 4) : ∀ (j : Nat) (r : Nat → Int32), nwj gv c j r b = r b
  | 0, _ => rfl
  | j + 1, r => by
    show nwj gv c j (nw1 gv c r) b = _
    rw [nwj_c hc hb j]
    unfold nw1
    rw [if_neg (by omega), if_neg (by omega), if_neg (by omega)]
theorem nwj_12 {c : Nat} (hc : c < 4) : ∀ (j : Nat) (r : Nat → Int32), nwj gv c j r 12 = r 12
  | 0, _ => rfl
  | j + 1, r => by
    show nwj gv c j (nw1 gv c r) 12 = _
    rw [nwj_12 hc j, nw1_12 hc]
theorem nwj_9 {c : Nat} (hc : c < 4) : ∀ (j : Nat) (r : Nat → Int32), nwj gv c j r 9 = r 9 + nI j
  | 0, r => by rw [show nI 0 = (0 : Int32) from rfl, Int32.add_zero]; rfl
  | j + 1, r => by
    show nwj gv c j (nw1 gv c r) 9 = _
    rw [nwj_9 hc j, nw1_9 hc, Int32.add_assoc, show (1 : Int32) = nI 1 from rfl, nI_add, Nat.add_comm 1 j]
theorem E_gameOf (h : CT n xs N gv M nc nm) (d : Nat) {c1 c2 x y : Nat} (h1 : c1 < nc) (h2 : c2 < nc) (hx : x ≤ 5) (hy : y ≤ 5) (w : Int32) : ∃ M1, mm_E n xs N (d + 12) 281 [.ref 60, .int (nI c1), .int (nI c2), .int (nI x), .int (nI y), .int w] M = some (some (.int (GV gv M c1 c2 x y / 4 - (if w = 0 then nI x else nI y))), M1) ∧ SM M M1 := by
  have h4 := h.nc4
  have hN := h.nN
  obtain ⟨M1, p1, p2, p3, p4⟩ := E_putAside (n := n) (xs := xs) (N := N) (by omega) (d + 10) 0 (by omega) M
  have r77 : mm_I M1 77 = mm_I M 77 := p2.2.2.2.2.2 77 (by decide)
  have q1 : QM M M1 := ⟨fun a g1 g2 => p2.2.2.2.2.2 a (by omega), p2.2.2.2.2.2 74 (by decide), by rw [p2.2.2.2.2.2 60 (by decide)]⟩
  obtain ⟨M2, e2, s2⟩ := E_strokesNow h.2.2.2.1 (by omega) d c1 (by omega) x (by omega) M1 q1 (by rw [r77, (h.cm h1).1]; exact h.w9 h1) (by rw [r77, h.b8]; exact h.st) (by rw [r77, h.b9]; exact h.sk2) (by rw [r77, h.b12]; exact h.yk)
  have r2 : mm_I M2 77 = nwj gv c1 x (mm_I M 77) := by rw [s2.2.2.2.2.2.2, r77]
  have v8 : nwj gv c1 x (mm_I M 77) 8 = SB gv M c1 x := by
    rw [nwj_8 (by omega) x 0 (mm_I M 77) (mm_I M 77 9) (by rw [show nI 0 = (0 : Int32) from rfl, Int32.add_zero]), (h.cm h1).1, h.b8, h.b9, h.b12]
    rfl
  have v9 : nwj gv c1 x (mm_I M 77) 9 = mm_I M 35 1 + nI x := by rw [nwj_9 (by omega), h.b9]
  have v12 : nwj gv c1 x (mm_I M 77) 12 = mm_I M 35 4 := by rw [nwj_12 (by omega), h.b12]
  have vc : nwj gv c1 x (mm_I M 77) c2 = mm_I M 37 c2 := by rw [nwj_c (by omega) (by omega), (h.cm h2).1]
  obtain ⟨M3, e3, s3⟩ := E_strokesNow h.2.2.2.1 (by omega) d c2 (by omega) y (by omega) M2 (q1.tr s2.QM) (by rw [r2, vc]; exact h.w9 h2) (by rw [r2, v8]; exact SB_bd h _ _) (by
      rw [r2, v9]
      have := h.sk
      unfold bd at this ⊢
      have e := nI_toInt (n := x) (by omega)
      rw [t_add (by omega) (by omega)]
      omega) (by rw [r2, v12]; exact h.yk)
  have r3 : mm_I M3 77 8 = GV gv M c1 c2 x y := by
    rw [s3.2.2.2.2.2.2, r2, nwj_8 (by omega) y 0 _ (mm_I M 35 1 + nI x) (by rw [v9, show nI 0 = (0 : Int32) from rfl, Int32.add_zero]), vc, v12, v8]
    rfl
  obtain ⟨M4, e4, s4, a4⟩ := E_takeBack (n := n) (xs := xs) (N := N) (by omega) (d + 10) 0 (by omega) M3
  have sm : SM M M4 := back_SM p2 p3 (s2.tr s3) (fun k hk => by rw [r2, nwj_hi (by omega) hk, nwj_hi (by omega) hk]) s4 a4
  refine ⟨M4, ?_, sm⟩
  rw [u_X12_gameOf]
  simp only [c40, if_false]
  (rw [show mm_E n xs N (d + 11) 261 [.ref 60, .int 0] M = _ from p1, ra_V]; simp only [Option.bind_some])
  (rw [e2, ra_V]; simp only [Option.bind_some])
  (rw [e3, ra_V]; simp only [Option.bind_some])
  (rw [show mm_E n xs N (d + 11) 262 [.ref 60, .int 0] M3 = _ from e4, ra_V]; simp only [Option.bind_some])
  rw [r3]
  by_cases hw : w = 0
  · simp only [hw, if_true]
  · simp only [hw, if_false]
theorem E_gameX (h : CT n xs N gv M nc nm) (d : Nat) {c1 c2 x y : Nat} (h2 : c2 < nc) (hx : x ≤ 5) (hy : y ≤ 5) : ∃ M1, mm_E n xs N (d + 10) 143 [.ref 16, .int (mm_I M 37 c2), .int (SB gv M c1 x), .int (mm_I M 35 1 + nI x), .int (mm_I M 35 4), .int (nI y)] M = some (some (.int (GV gv M c1 c2 x y)), M1) ∧ SX M M1 := by
  have hN := h.nN
  exact E_often h.2.2.1 h.hp (by omega) d _ _ _ _ (h.w9 h2) (SB_bd h _ _) (by
      have := h.sk
      unfold bd at this ⊢
      have e := nI_toInt (n := x) (by omega)
      rw [t_add (by omega) (by omega)]
      omega) h.yk y (by omega) M QX.rf
theorem Q_game (h : CT n xs N gv M nc nm) (d : Nat) (a b x y w : Int32) : QQ n xs N (d + 60) M 159 [.ref 16, .int a, .int b, .int x, .int y, .int w] 283 [.ref 60, .int a, .int b, .int x, .int y, .int w] := by
  have h4 := h.nc4
  unfold QQ
  rw [u_X11_game]
  simp only [u_X12_game, c10, c00, c40, if_true, if_false]
  -- what the model answers where it answers nothing
  have md : ∀ b1 b2 b3 b4 : Bool, c2 nc a b = b1 → wi 0 x 5 = b2 → wi 0 y 5 = b3 → wi 0 w 1 = b4 → (b1 && b2 && b3 && b4) = false → mm_E n xs N (d + 60) 283 [.ref 60, .int a, .int b, .int x, .int y, .int w] M = some (some (.int (-1000000)), M) := by
    intro b1 b2 b3 b4 k1 k2 k3 k4 hf
    rw [u_X12_game]
    (rw [E_areTwo (d + 56) h.1, ra_I]; simp only [Option.bind_some])
    rw [k1]
    cases b1 with
    | false => rfl
    | true =>
      rw [if_neg (show ¬ mb true = 0 by decide)]
      (rw [E_in (d + 58) M x 0 5, ra_I]; simp only [Option.bind_some])
      rw [k2]
      cases b2 with
      | false => rfl
      | true =>
        rw [if_neg (show ¬ mb true = 0 by decide)]
        (rw [E_in (d + 58) M y 0 5, ra_I]; simp only [Option.bind_some])
        rw [k3]
        cases b3 with
        | false => rfl
        | true =>
          rw [if_neg (show ¬ mb true = 0 by decide)]
          (rw [E_in (d + 58) M w 0 1, ra_I]; simp only [Option.bind_some])
          rw [k4]
          cases b4 with
          | false => rfl
          | true => cases hf
  rw [u_X12_game] at md
  (rw [E_isWithin (d + 58) M 0 x 5, ra_I]; simp only [Option.bind_some])
  cases hx : wi 0 x 5 with
  | false =>
    rw [if_pos (show mb false = 0 by decide)]
    refine ⟨-1000000, M, M, ?_, FR.rf, md _ _ _ _ rfl hx rfl rfl (by simp), FR.rf⟩
    (rw [E_hasTwo (d + 55) h.1, ra_I]; simp only [Option.bind_some])
    split <;> rfl
  | true =>
    rw [if_neg (show ¬ mb true = 0 by decide)]
    (rw [E_isWithin (d + 58) M 0 y 5, ra_I]; simp only [Option.bind_some])
    cases hy : wi 0 y 5 with
    | false =>
      rw [if_pos (show mb false = 0 by decide)]
      refine ⟨-1000000, M, M, ?_, FR.rf, md _ _ _ _ rfl rfl hy rfl (by simp), FR.rf⟩
      (rw [E_hasTwo (d + 55) h.1, ra_I]; simp only [Option.bind_some])
      split <;> rfl
    | true =>
      rw [if_neg (show ¬ mb true = 0 by decide)]
      (rw [E_hasTwo (d + 55) h.1, ra_I]; simp only [Option.bind_some])
      cases hk : c2 nc a b with
      | false => exact ⟨-1000000, M, M, rfl, FR.rf, md _ _ _ _ hk rfl rfl rfl (by simp), FR.rf⟩
      | true =>
        rw [if_neg (show ¬ mb true = 0 by decide)]
        (rw [E_isWithin (d + 58) M 0 w 1, ra_I]; simp only [Option.bind_some])
        cases hw : wi 0 w 1 with
        | false => exact ⟨-1000000, M, M, rfl, FR.rf, md _ _ _ _ rfl rfl rfl hw (by simp), FR.rf⟩
        | true =>
          clear md
          obtain ⟨i, j, hi, hj, hij, rfl, rfl⟩ := c2_t h4 hk
          obtain ⟨x, bx, rfl⟩ := wi_t (k := 5) (by decide) hx
          obtain ⟨y, b_y, rfl⟩ := wi_t (k := 5) (by decide) hy
          rw [if_neg (show ¬ mb true = 0 by decide)]
          (rw [E_wristOf (d + 58) M i (by omega), ra_I]; simp only [Option.bind_some])
          obtain ⟨M1, e1, s1⟩ := E_behX h (d + 49) hi (t := x) (by omega)
          (rw [e1, ra_I]; simp only [Option.bind_some])
          (rw [E_wristOf (d + 58) M1 j (by omega), ra_I]; simp only [Option.bind_some])
          obtain ⟨M2, e2, s2⟩ := E_gameX (h.sx s1) (d + 49) (c1 := i) hj bx b_y
          rw [SB_fr s1.fr] at e2
          (rw [e2, ra_I]; simp only [Option.bind_some])
          have s12 := s1.tr s2
          have h' := h.sx s12
          obtain ⟨M3, e3, s3⟩ := E_gameOf h' (d + 47) hi hj bx b_y w
          refine ⟨GV gv M1 i j x y / 4 - (if w = 0 then nI x else nI y), M2, M3, ?_, s12.fr, ?_, s3.fr⟩
          · by_cases w0 : w = 0
            · simp only [w0, if_true]
            · simp only [w0, if_false]
          · (rw [E_areTwo (d + 56) h'.1, ra_I]; simp only [Option.bind_some])
            rw [hk, if_neg (show ¬ mb true = 0 by decide)]
            (rw [E_in (d + 58) M2 (nI x) 0 5, ra_I]; simp only [Option.bind_some])
            rw [hx, if_neg (show ¬ mb true = 0 by decide)]
            (rw [E_in (d + 58) M2 (nI y) 0 5, ra_I]; simp only [Option.bind_some])
            rw [hy, if_neg (show ¬ mb true = 0 by decide)]
            (rw [E_in (d + 58) M2 w 0 1, ra_I]; simp only [Option.bind_some])
            rw [hw, if_neg (show ¬ mb true = 0 by decide)]
            (rw [e3, ra_I]; simp only [Option.bind_some])
            rw [GV_fr s2.fr]
end GA
