/-! stop, best -/
/-- asked of both: one answer -/
def QQ (n : Nat) (xs : Nat → Int32) (N d : Nat) (M : mmM) (iX : Nat) (aX : List Value) (iM : Nat) (aM : List Value) : Prop := ∃ v M1 M2, mm_E n xs N d iX aX M = some (some (.int v), M1) ∧ FR M M1 ∧ mm_E n xs N d iM aM M1 = some (some (.int v), M2) ∧ FR M1 M2
/-- by how many strokes it stands best -/
def bs (gv : Int32 → Int32 → Int32 → Int32 → Int32) (M : mmM) (c i j b : Nat) : Nat := foldI (fun t b => if SB gv M c t ≤ SB gv M c b then b else t) i j b
def bst (gv : Int32 → Int32 → Int32 → Int32 → Int32) (M : mmM) (v : Int32) (i j : Nat) (p : Int32 × Int32) : Int32 × Int32 := foldI (fun c p => if sn gv M c v 0 (lfN M c + 1) = -1 then p else if p.1 = -1 then (nI c, sn gv M c v 0 (lfN M c + 1)) else if p.2 ≤ sn gv M c v 0 (lfN M c + 1) then p else (nI c, sn gv M c v 0 (lfN M c + 1))) i j p
theorem add1sub {x : Int32} {t : Nat} : x + nI (t + 1) - 1 = x + nI t := by
  rw [← nI_1, ← Int32.add_assoc, Int32.add_sub_cancel]
section AK
variable {n : Nat} {xs : Nat → Int32} {N : Nat} {gv : Int32 → Int32 → Int32 → Int32 → Int32} {M M' : mmM} {nc nm : Nat}
theorem bs_fr (f : FR M M') : bs gv M' = bs gv M := by
  funext c i j b
  unfold bs
  rw [SB_fr f]
theorem bs_le (c j : Nat) : ∀ (i b : Nat), b ≤ i + j → bs gv M c (i + 1) j b ≤ i + j := by
  induction j with
  | zero => intro i b h; exact h
  | succ j ih =>
    intro i b h
    unfold bs foldI
    have := ih (i + 1) (if SB gv M c (i + 1) ≤ SB gv M c b then b else i + 1) (by split <;> omega)
    rw [show i + (j + 1) = i + 1 + j by omega]
    exact this
theorem bst_fr (f : FR M M') : bst gv M' = bst gv M := by
  funext v i j p
  unfold bst
  rw [sn_fr f, lf_fr f]
def vStop (gv : Int32 → Int32 → Int32 → Int32 → Int32) (M : mmM) (c : Nat) (x : Int32) (b : Nat) : Int32 := if x = 0 then nI b else SB gv M c b
theorem L_stopX (d : Nat) (x : Int32) (c l : Nat) (hl : l ≤ 40) : ∀ (j i f b : Nat) (M : mmM), CT n xs N gv M nc nm → c < nc → i + j = l → j < f → ∃ M1, lp_X11_stop n xs N (d + 9) f 54 [some (.ref 16), none, some (.int x), some (.int (mm_I M 37 c)), some (.int (nI l)), some (.int (SB gv M c i)), some (.int (SB gv M c b)), some (.int (nI b)), some (.int (nI (i + 1)))] [] M = some (some (.int (vStop gv M c x (bs gv M c (i + 1) j b))), M1) ∧ SX M M1 := by
  intro j
  induction j with
  | zero =>
    intro i f b M h hc hij hf
    obtain ⟨f, rfl⟩ : ∃ g, f = g + 1 := ⟨f - 1, by omega⟩
    rw [lu_X11_stop_54, if_pos (nI_lt (by omega) (by omega))]
    refine ⟨M, ?_, SX.rf⟩
    unfold vStop bs foldI
    split <;> rfl
  | succ j ih =>
    intro i f b M h hc hij hf
    obtain ⟨f, rfl⟩ : ∃ g, f = g + 1 := ⟨f - 1, by omega⟩
    rw [lu_X11_stop_54, if_neg (show ¬ nI l < nI (i + 1) from fun q => by have := (nI_ltI (by omega) (by omega)).mp q; omega), add1sub]
    obtain ⟨M1, e1, s1⟩ := E_wh1 h d hc (t := i) (by omega)
    (rw [e1, ra_I]; simp only [Option.bind_some])
    by_cases hv : SB gv M c (i + 1) ≤ SB gv M c b
    · obtain ⟨M2, e2, s2⟩ := ih (i + 1) f b M1 (h.sx s1) hc (by omega) (by omega)
      unfold vStop at e2
      rw [bs_fr s1.fr, SB_fr s1.fr, s1.I (by decide) (by decide)] at e2
      rw [if_pos hv, nI_1, e2]
      refine ⟨M2, ?_, s1.tr s2⟩
      unfold vStop bs
      rw [foldI, if_pos hv]
    · obtain ⟨M2, e2, s2⟩ := ih (i + 1) f (i + 1) M1 (h.sx s1) hc (by omega) (by omega)
      unfold vStop at e2
      rw [bs_fr s1.fr, SB_fr s1.fr, s1.I (by decide) (by decide)] at e2
      rw [if_neg hv, nI_1, e2]
      refine ⟨M2, ?_, s1.tr s2⟩
      unfold vStop bs
      rw [foldI, if_neg hv]
theorem L_stopM (d : Nat) (x : Int32) (c : Nat) : ∀ (j i f b : Nat) (M : mmM), CT n xs N gv M nc nm → c < nc → i + j = lfN M c → j < f → b ≤ i → ∃ M1, lp_X12_stop n xs N (d + 12) f 24 [some (.ref 60), some (.int (nI c)), some (.int x), some (.int (nI b)), some (.int (nI (i + 1)))] [] M = some (some (.int (vStop gv M c x (bs gv M c (i + 1) j b))), M1) ∧ SM M M1 := by
  intro j
  induction j with
  | zero =>
    intro i f b M h hc hij hf hb
    have hl := (h.lf hc).2
    obtain ⟨f, rfl⟩ : ∃ g, f = g + 1 := ⟨f - 1, by omega⟩
    rw [lu_X12_stop_24]
    (rw [E_leftM h (d + 11) hc, ra_I]; simp only [Option.bind_some])
    rw [if_pos (nI_lt (by omega) (by omega))]
    unfold vStop bs foldI
    by_cases hx : x = 0
    · rw [if_pos hx, if_pos hx]
      exact ⟨M, rfl, SM.rf⟩
    · rw [if_neg hx, if_neg hx]
      obtain ⟨M1, e1, s1⟩ := E_behM h d hc b (by omega)
      rw [Nat.min_eq_left (show b ≤ lfN M c by omega)] at e1
      (rw [e1, ra_I]; simp only [Option.bind_some])
      exact ⟨M1, rfl, s1⟩
  | succ j ih =>
    intro i f b M h hc hij hf hb
    have hl := (h.lf hc).2
    obtain ⟨f, rfl⟩ : ∃ g, f = g + 1 := ⟨f - 1, by omega⟩
    rw [lu_X12_stop_24]
    (rw [E_leftM h (d + 11) hc, ra_I]; simp only [Option.bind_some])
    rw [if_neg (show ¬ nI (lfN M c) < nI (i + 1) from fun q => by have := (nI_ltI (by omega) (by omega)).mp q; omega)]
    obtain ⟨M1, e1, s1⟩ := E_behM h d hc (i + 1) (by omega)
    rw [Nat.min_eq_left (show i + 1 ≤ lfN M c by omega)] at e1
    (rw [e1, ra_I]; simp only [Option.bind_some])
    obtain ⟨M2, e2, s2⟩ := E_behM (h.sm s1) d hc b (by omega)
    rw [lf_fr s1.fr, Nat.min_eq_left (show b ≤ lfN M c by omega), SB_fr s1.fr] at e2
    (rw [e2, ra_I]; simp only [Option.bind_some])
    have s12 := s1.tr s2
    by_cases hv : SB gv M c (i + 1) ≤ SB gv M c b
    · obtain ⟨M3, e3, s3⟩ := ih (i + 1) f b M2 (h.sm s12) hc (by rw [lf_fr s12.fr]; omega) (by omega) (by omega)
      unfold vStop at e3
      rw [bs_fr s12.fr, SB_fr s12.fr] at e3
      rw [if_pos hv, nI_1, e3]
      refine ⟨M3, ?_, s12.tr s3⟩
      unfold vStop bs
      rw [foldI, if_pos hv]
    · obtain ⟨M3, e3, s3⟩ := ih (i + 1) f (i + 1) M2 (h.sm s12) hc (by rw [lf_fr s12.fr]; omega) (by omega) (by omega)
      unfold vStop at e3
      rw [bs_fr s12.fr, SB_fr s12.fr] at e3
      rw [if_neg hv, nI_1, e3]
      refine ⟨M3, ?_, s12.tr s3⟩
      unfold vStop bs
      rw [foldI, if_neg hv]
theorem Q_behind (h : CT n xs N gv M nc nm) (d : Nat) (c x : Int32) : QQ n xs N (d + 60) M 142 [.ref 16, .int c, .int x] 264 [.ref 60, .int c, .int x] := by
  obtain ⟨M1, e1, s1⟩ := A_behindX h (d + 49) c x
  obtain ⟨M2, e2, s2⟩ := A_behindM (h.sx s1) (d + 47) c x
  refine ⟨_, M1, M2, e1, s1.fr, ?_, s2.fr⟩
  rw [e2]
  unfold vBehind
  rw [SB_fr s1.fr, lf_fr s1.fr]
theorem Q_soonest (h : CT n xs N gv M nc nm) (d : Nat) (c x : Int32) : QQ n xs N (d + 60) M 144 [.ref 16, .int c, .int x] 266 [.ref 60, .int c, .int x] := by
  obtain ⟨M1, e1, s1⟩ := A_soonestX h (d + 49) c x
  obtain ⟨M2, e2, s2⟩ := A_soonestM (h.sx s1) (d + 46) c x
  refine ⟨_, M1, M2, e1, s1.fr, ?_, s2.fr⟩
  rw [e2]
  unfold vSoonest
  rw [sn_fr s1.fr, lf_fr s1.fr]
theorem Q_stop (h : CT n xs N gv M nc nm) (d : Nat) (c x : Int32) : QQ n xs N (d + 60) M 146 [.ref 16, .int c, .int x] 267 [.ref 60, .int c, .int x] := by
  have h4 := h.nc4
  have hN := h.nN
  unfold QQ
  rw [u_X11_stop]
  simp only [u_X12_stop]
  (rw [E_hasCook (d + 56) h.1, ra_I]; simp only [Option.bind_some])
  cases hk : ck nc c with
  | false =>
    refine ⟨-1, M, M, rfl, FR.rf, ?_, FR.rf⟩
    (rw [E_isCook (d + 57) h.1, ra_I]; simp only [Option.bind_some])
    rw [hk]
    rfl
  | true =>
    obtain ⟨j, hj, rfl⟩ := ck_t (by omega) hk
    rw [if_neg (show ¬ mb true = 0 by decide)]
    (rw [E_isWithin (d + 58) M 0 x 1, ra_I]; simp only [Option.bind_some])
    cases hw : wi 0 x 1 with
    | false =>
      refine ⟨-1, M, M, rfl, FR.rf, ?_, FR.rf⟩
      (rw [E_isCook (d + 57) h.1, ra_I]; simp only [Option.bind_some])
      rw [hk, if_neg (show ¬ mb true = 0 by decide)]
      (rw [E_in (d + 58) M x 0 1, ra_I]; simp only [Option.bind_some])
      rw [hw]
      rfl
    | true =>
      have hl := (h.lf hj).2
      rw [if_neg (show ¬ mb true = 0 by decide)]
      (rw [E_wristOf (d + 58) M j (by omega), ra_I]; simp only [Option.bind_some])
      (rw [E_left h (d + 55) hj, ra_I]; simp only [Option.bind_some])
      obtain ⟨M1, e1, s1⟩ := L_stopX (d + 50) x j (lfN M j) hl (lfN M j) 0 N 0 M h hj (by omega) (by omega)
      obtain ⟨M2, e2, s2⟩ := L_stopM (d + 47) x j (lfN M1 j) 0 N 0 M1 (h.sx s1) hj (by omega) (by have := lf_fr s1.fr; rw [this]; omega) (by omega)
      refine ⟨_, M1, M2, e1, s1.fr, ?_, s2.fr⟩
      (rw [E_isCook (d + 57) (h.sx s1).1, ra_I]; simp only [Option.bind_some])
      rw [hk, if_neg (show ¬ mb true = 0 by decide)]
      (rw [E_in (d + 58) M1 x 0 1, ra_I]; simp only [Option.bind_some])
      rw [hw, if_neg (show ¬ mb true = 0 by decide)]
      refine e2.trans ?_
      unfold vStop
      rw [bs_fr s1.fr, SB_fr s1.fr, lf_fr s1.fr]
theorem L_bestX (d : Nat) (v : Int32) : ∀ (j i f : Nat) (p : Int32 × Int32) (M : mmM), CT n xs N gv M nc nm → i + j = nc → j < f → ∃ M1, lp_X11_best n xs N (d + 10) f 23 [some (.ref 16), some (.int v), some (.int p.1), some (.int p.2), some (.int (nI i)), none] [] M = some (some (.int (bst gv M v i j p).1), M1) ∧ SX M M1 := by
  intro j
  induction j with
  | zero =>
    intro i f p M h hij hf
    have h4 := h.nc4
    obtain ⟨f, rfl⟩ : ∃ g, f = g + 1 := ⟨f - 1, by omega⟩
    rw [lu_X11_best_23]
    (rw [hM1 (d + 8) h.1, ra_I]; simp only [Option.bind_some])
    rw [if_pos (nI_le (by omega) (by omega))]
    exact ⟨M, rfl, SX.rf⟩
  | succ j ih =>
    intro i f p M h hij hf
    have h4 := h.nc4
    obtain ⟨f, rfl⟩ : ∃ g, f = g + 1 := ⟨f - 1, by omega⟩
    rw [lu_X11_best_23]
    (rw [hM1 (d + 8) h.1, ra_I]; simp only [Option.bind_some])
    rw [if_neg (nI_ge (show i < nc by omega) (by omega))]
    obtain ⟨M1, e1, s1⟩ := E_soonX h d v (show i < nc by omega)
    (rw [e1, ra_I]; simp only [Option.bind_some])
    have key : ∀ q : Int32 × Int32, ∃ M2, lp_X11_best n xs N (d + 10) f 23 [some (.ref 16), some (.int v), some (.int q.1), some (.int q.2), some (.int (nI (i + 1))), none] [] M1 = some (some (.int (bst gv M v (i + 1) j q).1), M2) ∧ SX M M2 := by
      intro q
      obtain ⟨M2, e2, s2⟩ := ih (i + 1) f q M1 (h.sx s1) (by omega) (by omega)
      rw [bst_fr s1.fr] at e2
      exact ⟨M2, e2, s1.tr s2⟩
    rw [nI_1]
    unfold bst at key ⊢
    simp only [foldI]
    by_cases g1 : sn gv M i v 0 (lfN M i + 1) = -1
    · simp only [if_pos g1]; exact key p
    · simp only [if_neg g1]
      by_cases g2 : p.1 = -1
      · simp only [if_pos g2]; exact key (nI i, _)
      · simp only [if_neg g2]
        by_cases g3 : p.2 ≤ sn gv M i v 0 (lfN M i + 1)
        · simp only [if_pos g3]; exact key p
        · simp only [if_neg g3]; exact key (nI i, _)
theorem L_bestM (d : Nat) (v : Int32) : ∀ (j i f : Nat) (p : Int32 × Int32) (M : mmM), CT n xs N gv M nc nm → i + j = nc → j < f → ∃ M1, lp_X12_best n xs N (d + 13) f 26 [some (.ref 60), some (.int v), some (.int p.1), some (.int p.2), some (.int (nI i)), none] [] M = some (some (.int (bst gv M v i j p).1), M1) ∧ SM M M1 := by
  intro j
  induction j with
  | zero =>
    intro i f p M h hij hf
    have h4 := h.nc4
    obtain ⟨f, rfl⟩ : ∃ g, f = g + 1 := ⟨f - 1, by omega⟩
    rw [lu_X12_best_26, h.1.2.2.2.2.2.2.1, if_pos (nI_le (by omega) (by omega))]
    exact ⟨M, rfl, SM.rf⟩
  | succ j ih =>
    intro i f p M h hij hf
    have h4 := h.nc4
    obtain ⟨f, rfl⟩ : ∃ g, f = g + 1 := ⟨f - 1, by omega⟩
    rw [lu_X12_best_26, h.1.2.2.2.2.2.2.1, if_neg (nI_ge (show i < nc by omega) (by omega))]
    obtain ⟨M1, e1, s1⟩ := E_soonM h d v (show i < nc by omega)
    (rw [e1, ra_I]; simp only [Option.bind_some])
    have key : ∀ q : Int32 × Int32, ∃ M2, lp_X12_best n xs N (d + 13) f 26 [some (.ref 60), some (.int v), some (.int q.1), some (.int q.2), some (.int (nI (i + 1))), none] [] M1 = some (some (.int (bst gv M v (i + 1) j q).1), M2) ∧ SM M M2 := by
      intro q
      obtain ⟨M2, e2, s2⟩ := ih (i + 1) f q M1 (h.sm s1) (by omega) (by omega)
      rw [bst_fr s1.fr] at e2
      exact ⟨M2, e2, s1.tr s2⟩
    rw [nI_1]
    unfold bst at key ⊢
    simp only [foldI]
    by_cases g1 : sn gv M i v 0 (lfN M i + 1) = -1
    · simp only [if_pos g1]; exact key p
    · simp only [if_neg g1]
      by_cases g2 : p.1 = -1
      · simp only [if_pos g2]; exact key (nI i, _)
      · simp only [if_neg g2]
        by_cases g3 : p.2 ≤ sn gv M i v 0 (lfN M i + 1)
        · simp only [if_pos g3]; exact key p
        · simp only [if_neg g3]; exact key (nI i, _)
/-- is there a duchy -/
theorem CT.isX (h : CT n xs N gv M nc nm) : mm_I M 16 16 = mb (decide (nm ≠ 0)) := h.1.2.2.2.1
theorem CT.isM (h : CT n xs N gv M nc nm) : mm_I M 60 26 = nI nm := h.1.2.2.2.2.2.2.2.1
theorem CT.X0 (h : CT n xs N gv M nc nm) (h0 : nm = 0) : mm_I M 16 16 = 0 ∧ mm_I M 60 26 = 0 := by
  rw [h.isX, h.isM, h0]; exact ⟨rfl, rfl⟩
theorem CT.X1 (h : CT n xs N gv M nc nm) (h0 : ¬ nm = 0) : ¬ mm_I M 16 16 = 0 ∧ ¬ mm_I M 60 26 = 0 := by
  have h7 := h.nm7
  rw [h.isX, h.isM]
  refine ⟨by simp [h0, mb], fun q => h0 ?_⟩
  exact (nI_eq (by omega) (by omega)).mp (q.trans nI_0.symm)
theorem Q_best (h : CT n xs N gv M nc nm) (d : Nat) (v : Int32) : QQ n xs N (d + 60) M 147 [.ref 16, .int v] 268 [.ref 60, .int v] := by
  have h4 := h.nc4
  have hN := h.nN
  unfold QQ
  rw [u_X11_best]
  simp only [u_X12_best]
  by_cases h0 : nm = 0
  · refine ⟨-1, M, M, ?_, FR.rf, ?_, FR.rf⟩
    · rw [if_pos (h.X0 h0).1]
    · rw [if_pos (h.X0 h0).2]
  · rw [if_neg (h.X1 h0).1]
    (rw [E_isStand (d + 57) M v, ra_I]; simp only [Option.bind_some])
    cases hw : wi 0 v 99 with
    | false =>
      refine ⟨-1, M, M, rfl, FR.rf, ?_, FR.rf⟩
      rw [if_neg (h.X1 h0).2]
      (rw [E_in (d + 58) M v 0 99, ra_I]; simp only [Option.bind_some])
      rw [hw]
      rfl
    | true =>
      rw [if_neg (show ¬ mb true = 0 by decide)]
      obtain ⟨M1, e1, s1⟩ := L_bestX (d + 49) v nc 0 N (-1, 0) M h (by omega) (by omega)
      obtain ⟨M2, e2, s2⟩ := L_bestM (d + 46) v nc 0 N (-1, 0) M1 (h.sx s1) (by omega) (by omega)
      refine ⟨_, M1, M2, e1, s1.fr, ?_, s2.fr⟩
      rw [if_neg ((h.sx s1).X1 h0).2]
      (rw [E_in (d + 58) M1 v 0 99, ra_I]; simp only [Option.bind_some])
      rw [hw, if_neg (show ¬ mb true = 0 by decide), bst_fr s1.fr] at *
      exact e2
end AK
