/-! who is the most of all -/
def mxi (f : Nat → Int32) (i j b : Nat) : Nat := foldI (fun t b => if f t ≤ f b then b else t) i j b
theorem mxi_0 (f : Nat → Int32) (i b : Nat) : mxi f i 0 b = b := rfl
theorem mxi_s (f : Nat → Int32) (i j b : Nat) : mxi f i (j + 1) b = mxi f (i + 1) j (if f i ≤ f b then b else i) := rfl
def cfB (M : mmM) (m : Nat) : Bool := !ib (mm_I M 35 2) m && decide (mm_I M 33 (12 + m * 4 + 2) ≤ mm_I M 35 0)
def cfS (M : mmM) (i j : Nat) (a : Int32) : Int32 := foldI (fun m a => if cfB M m = true then a ||| ((1 : Int32) <<< (nI m &&& 31)) else a ||| 0) i j a
theorem cfS_0 (M : mmM) (i : Nat) (a : Int32) : cfS M i 0 a = a := rfl
theorem cfS_s (M : mmM) (i j : Nat) (a : Int32) : cfS M i (j + 1) a = cfS M (i + 1) j (if cfB M i = true then a ||| ((1 : Int32) <<< (nI i &&& 31)) else a ||| 0) := rfl
def hl : Nat → Nat → Nat
  | 0, _ => 0
  | k + 1, s => if s = 0 then 0 else 1 + hl k (s / 2)
theorem hl_0 (s : Nat) : hl 0 s = 0 := rfl
theorem hl_s (k s : Nat) : hl (k + 1) s = if s = 0 then 0 else 1 + hl k (s / 2) := rfl
theorem sub_le0 {a b : Int32} {h : Nat} (hh : h ≤ 1000) (ha : bd 0 h a) (hb : bd 0 h b) : (a - b ≤ 0) = (a ≤ b) := by
  unfold bd at ha hb
  apply propext
  rw [Int32.le_iff_toInt_le, Int32.le_iff_toInt_le, t_sub (by omega) (by omega), show (0 : Int32).toInt = 0 by decide]
  omega
section MO
variable {n : Nat} {xs : Nat → Int32} {N : Nat} {gv : Int32 → Int32 → Int32 → Int32 → Int32} {M M' : mmM} {nc nm : Nat}
theorem L_fmX (h : RT M nc nm) (d w : Nat) (hw : w < 4) : ∀ (j i f b : Nat), b < nm → i + j = nm → j < f → lp_X11_firstMinisterByMost n xs N (d + 3) f 4 [some (.ref 16), some (.int (nI w)), some (.int (nI b)), some (.int (nI i))] [] M = some (some (.int (nI (mxi (fun m => mm_I M 33 (12 + m * 4 + w)) i j b))), M) := by
  have h7 := h.2.1
  intro j
  induction j with
  | zero =>
    intro i f b hb hij hf
    obtain ⟨f, rfl⟩ : ∃ g, f = g + 1 := ⟨f - 1, by omega⟩
    rw [lu_X11_firstMinisterByMost_4]
    (rw [hM2 (d + 1) h, ra_I]; simp only [Option.bind_some])
    rw [if_pos (nI_le (by omega) (by omega)), mxi_0]
  | succ j ih =>
    intro i f b hb hij hf
    obtain ⟨f, rfl⟩ : ∃ g, f = g + 1 := ⟨f - 1, by omega⟩
    rw [lu_X11_firstMinisterByMost_4]
    (rw [hM2 (d + 1) h, ra_I]; simp only [Option.bind_some])
    rw [if_neg (nI_ge (show i < nm by omega) (by omega)), mxi_s]
    (rw [E_minI d M i w (by omega) hw, ra_I]; simp only [Option.bind_some])
    (rw [E_minI d M b w (by omega) hw, ra_I]; simp only [Option.bind_some])
    rw [nI_1]
    by_cases q : mm_I M 33 (12 + i * 4 + w) ≤ mm_I M 33 (12 + b * 4 + w)
    · rw [if_pos q, if_pos q]
      exact ih (i + 1) f b hb (by omega) (by omega)
    · rw [if_neg q, if_neg q]
      exact ih (i + 1) f i (by omega) (by omega) (by omega)
theorem L_tmM (h : RT M nc nm) (d w : Nat) (hw : w < 4) : ∀ (j i f b : Nat), b < nm → i + j = nm → j < f → lp_X12_topMinister n xs N (d + 1) f 4 [some (.ref 60), some (.int (nI w)), some (.int (nI b)), some (.int (nI i))] [] M = some (some (.int (nI (mxi (fun m => mm_I M 33 (12 + m * 4 + w)) i j b))), M) := by
  have h7 := h.2.1
  intro j
  induction j with
  | zero =>
    intro i f b hb hij hf
    obtain ⟨f, rfl⟩ : ∃ g, f = g + 1 := ⟨f - 1, by omega⟩
    rw [lu_X12_topMinister_4, h.2.2.2.2.2.2.2.1, if_pos (nI_le (by omega) (by omega)), mxi_0]
  | succ j ih =>
    intro i f b hb hij hf
    obtain ⟨f, rfl⟩ : ∃ g, f = g + 1 := ⟨f - 1, by omega⟩
    rw [lu_X12_topMinister_4, h.2.2.2.2.2.2.2.1, if_neg (nI_ge (show i < nm by omega) (by omega)), mxi_s]
    (rw [E_of d M i w (by omega) hw, ra_I]; simp only [Option.bind_some])
    (rw [E_of d M b w (by omega) hw, ra_I]; simp only [Option.bind_some])
    rw [nI_1, h.2.2.2.2.2.2.2.2.2.2.1 i w (by omega) hw, h.2.2.2.2.2.2.2.2.2.2.1 b w (by omega) hw]
    by_cases q : mm_I M 33 (12 + i * 4 + w) ≤ mm_I M 33 (12 + b * 4 + w)
    · rw [if_pos q, if_pos q]
      exact ih (i + 1) f b hb (by omega) (by omega)
    · rw [if_neg q, if_neg q]
      exact ih (i + 1) f i (by omega) (by omega) (by omega)
theorem L_scX (h : RT M nc nm) (d : Nat) : ∀ (j i f b : Nat), b < nc → i + j = nc → j < f → lp_X11_strongestCook n xs N (d + 2) f 4 [some (.ref 16), some (.int (nI b)), some (.int (nI i))] [] M = some (some (.int (nI (mxi (fun c => mm_I M 37 c) i j b))), M) := by
  have h4 := h.1
  intro j
  induction j with
  | zero =>
    intro i f b hb hij hf
    obtain ⟨f, rfl⟩ : ∃ g, f = g + 1 := ⟨f - 1, by omega⟩
    rw [lu_X11_strongestCook_4]
    (rw [hM1 d h, ra_I]; simp only [Option.bind_some])
    rw [if_pos (nI_le (by omega) (by omega)), mxi_0]
  | succ j ih =>
    intro i f b hb hij hf
    obtain ⟨f, rfl⟩ : ∃ g, f = g + 1 := ⟨f - 1, by omega⟩
    rw [lu_X11_strongestCook_4]
    (rw [hM1 d h, ra_I]; simp only [Option.bind_some])
    rw [if_neg (nI_ge (show i < nc by omega) (by omega)), mxi_s]
    (rw [E_wristOf (d + 1) M i (by omega), ra_I]; simp only [Option.bind_some])
    (rw [E_wristOf (d + 1) M b (by omega), ra_I]; simp only [Option.bind_some])
    rw [nI_1]
    by_cases q : mm_I M 37 i ≤ mm_I M 37 b
    · rw [if_pos q, if_pos q]
      exact ih (i + 1) f b hb (by omega) (by omega)
    · rw [if_neg q, if_neg q]
      exact ih (i + 1) f i (by omega) (by omega) (by omega)
theorem L_fcX (h : CT n xs N gv M nc nm) (d : Nat) : ∀ (j i f b : Nat), b < nc → i + j = nc → j < f → lp_X11_freshestCook n xs N (d + 4) f 4 [some (.ref 16), some (.int (nI b)), some (.int (nI i))] [] M = some (some (.int (nI (mxi (fun c => nI (lfN M c)) i j b))), M) := by
  have h4 := h.nc4
  intro j
  induction j with
  | zero =>
    intro i f b hb hij hf
    obtain ⟨f, rfl⟩ : ∃ g, f = g + 1 := ⟨f - 1, by omega⟩
    rw [lu_X11_freshestCook_4]
    (rw [hM1 (d + 2) h.1, ra_I]; simp only [Option.bind_some])
    rw [if_pos (nI_le (by omega) (by omega)), mxi_0]
  | succ j ih =>
    intro i f b hb hij hf
    obtain ⟨f, rfl⟩ : ∃ g, f = g + 1 := ⟨f - 1, by omega⟩
    rw [lu_X11_freshestCook_4]
    (rw [hM1 (d + 2) h.1, ra_I]; simp only [Option.bind_some])
    rw [if_neg (nI_ge (show i < nc by omega) (by omega)), mxi_s]
    (rw [E_left h d (c := i) (by omega), ra_I]; simp only [Option.bind_some])
    (rw [E_left h d (c := b) (by omega), ra_I]; simp only [Option.bind_some])
    rw [nI_1]
    by_cases q : nI (lfN M i) ≤ nI (lfN M b)
    · rw [if_pos q, if_pos q]
      exact ih (i + 1) f b hb (by omega) (by omega)
    · rw [if_neg q, if_neg q]
      exact ih (i + 1) f i (by omega) (by omega) (by omega)
theorem L_tcW (h : CT n xs N gv M nc nm) (d : Nat) : ∀ (j i f b : Nat), b < nc → i + j = nc → j < f → lp_X12_topCook n xs N d f 4 [some (.ref 60), some (.int 1), some (.int (nI b)), some (.int (nI i)), none] [] M = some (some (.int (nI (mxi (fun c => mm_I M 37 c) i j b))), M) := by
  have h4 := h.nc4
  intro j
  induction j with
  | zero =>
    intro i f b hb hij hf
    obtain ⟨f, rfl⟩ : ∃ g, f = g + 1 := ⟨f - 1, by omega⟩
    rw [lu_X12_topCook_4, h.1.2.2.2.2.2.2.1, if_pos (nI_le (by omega) (by omega)), mxi_0]
  | succ j ih =>
    intro i f b hb hij hf
    obtain ⟨f, rfl⟩ : ∃ g, f = g + 1 := ⟨f - 1, by omega⟩
    rw [lu_X12_topCook_4, h.1.2.2.2.2.2.2.1, if_neg (nI_ge (show i < nc by omega) (by omega)), mxi_s, if_neg (show ¬ (1 : Int32) = 0 by decide), Int32.zero_add, Int32.zero_add]
    simp only [mm_inb_nI (show i < 198 by omega) (by omega), mm_inb_nI (show b < 198 by omega) (by omega), cond_true, nI_clamp (show i < 2 ^ 31 by omega), nI_clamp (show b < 2 ^ 31 by omega), (h.cm (show i < nc by omega)).1, (h.cm hb).1, nI_1, sub_le0 (show 9 ≤ 1000 by omega) (h.w9 (show i < nc by omega)) (h.w9 hb)]
    by_cases q : mm_I M 37 i ≤ mm_I M 37 b
    · rw [if_pos q, if_pos q]
      exact ih (i + 1) f b hb (by omega) (by omega)
    · rw [if_neg q, if_neg q]
      exact ih (i + 1) f i (by omega) (by omega) (by omega)
theorem L_tcL (h : CT n xs N gv M nc nm) (d : Nat) : ∀ (j i f b : Nat), b < nc → i + j = nc → j < f → lp_X12_topCook n xs N (d + 1) f 4 [some (.ref 60), some (.int 0), some (.int (nI b)), some (.int (nI i)), none] [] M = some (some (.int (nI (mxi (fun c => nI (lfN M c)) i j b))), M) := by
  have h4 := h.nc4
  intro j
  induction j with
  | zero =>
    intro i f b hb hij hf
    obtain ⟨f, rfl⟩ : ∃ g, f = g + 1 := ⟨f - 1, by omega⟩
    rw [lu_X12_topCook_4, h.1.2.2.2.2.2.2.1, if_pos (nI_le (by omega) (by omega)), mxi_0]
  | succ j ih =>
    intro i f b hb hij hf
    obtain ⟨f, rfl⟩ : ∃ g, f = g + 1 := ⟨f - 1, by omega⟩
    rw [lu_X12_topCook_4, h.1.2.2.2.2.2.2.1, if_neg (nI_ge (show i < nc by omega) (by omega)), mxi_s, if_pos rfl]
    (rw [E_leftM h d (c := i) (by omega), ra_I]; simp only [Option.bind_some])
    (rw [E_leftM h d (c := b) (by omega), ra_I]; simp only [Option.bind_some])
    have l1 := (h.lf (show i < nc by omega)).2
    have l2 := (h.lf hb).2
    rw [nI_1]
    simp only [sub_le0 (show 40 ≤ 1000 by omega) (nI_bd l1 (by omega)) (nI_bd l2 (by omega))]
    by_cases q : nI (lfN M i) ≤ nI (lfN M b)
    · rw [if_pos q, if_pos q]
      exact ih (i + 1) f b hb (by omega) (by omega)
    · rw [if_neg q, if_neg q]
      exact ih (i + 1) f i (by omega) (by omega) (by omega)
theorem E_canFoldX (d : Nat) (M : mmM) {m : Nat} (hm : m < 7) : mm_E n xs N (d + 4) 114 [.ref 16, .int (nI m)] M = some (some (.int (mb (cfB M m))), M) := by
  rw [u_X11_canFold]
  (rw [E_isInside (d + 2) M m, ra_I]; simp only [Option.bind_some])
  unfold cfB
  cases ib (mm_I M 35 2) m with
  | true => rfl
  | false =>
    rw [if_pos (show mb false = 0 by decide)]
    (rw [(show mm_E n xs N (d + 3) 94 [.ref 32, .int 2, .int (nI m), .int 2] M = _ from E_minI d M m 2 hm (by omega)), ra_I]; simp only [Option.bind_some])
    by_cases q : mm_I M 33 (12 + m * 4 + 2) ≤ mm_I M 35 0
    · rw [if_neg (i_nlt.mpr q), decide_eq_true q]; rfl
    · rw [if_pos (i_nle.mp q), decide_eq_false q]; rfl
theorem E_canFoldM (h : CT n xs N gv M nc nm) (d : Nat) {m : Nat} (hm : m < nm) : mm_E n xs N (d + 2) 235 [.ref 60, .int (nI m)] M = some (some (.int (mb (cfB M m))), M) := by
  have h7 := h.nm7
  rw [u_X12_canFold]
  (rw [E_has d M _ m, ra_I]; simp only [Option.bind_some])
  unfold cfB
  rw [h.b10]
  cases ib (mm_I M 35 2) m with
  | true => rfl
  | false =>
    rw [if_pos (show mb false = 0 by decide)]
    (rw [(show mm_E n xs N (d + 1) 221 [.ref 60, .int (nI m), .int 2] M = _ from E_of d M m 2 (by omega) (by omega)), ra_I]; simp only [Option.bind_some])
    rw [h.c76 hm (by omega), h.b8]
    by_cases q : mm_I M 33 (12 + m * 4 + 2) ≤ mm_I M 35 0
    · rw [if_neg (i_nlt.mpr q), decide_eq_true q]; rfl
    · rw [if_pos (i_nle.mp q), decide_eq_false q]; rfl
theorem L_cfX (h : RT M nc nm) (d : Nat) : ∀ (j i f : Nat) (a : Int32), i + j = nm → j < f → lp_X11_couldFold n xs N (d + 4) f 4 [some (.ref 16), some (.int a), some (.int (nI i))] [] M = some (some (.int (cfS M i j a)), M) := by
  have h7 := h.2.1
  intro j
  induction j with
  | zero =>
    intro i f a hij hf
    obtain ⟨f, rfl⟩ : ∃ g, f = g + 1 := ⟨f - 1, by omega⟩
    rw [lu_X11_couldFold_4]
    (rw [hM2 (d + 2) h, ra_I]; simp only [Option.bind_some])
    rw [if_pos (nI_le (by omega) (by omega)), cfS_0]
  | succ j ih =>
    intro i f a hij hf
    obtain ⟨f, rfl⟩ : ∃ g, f = g + 1 := ⟨f - 1, by omega⟩
    rw [lu_X11_couldFold_4]
    (rw [hM2 (d + 2) h, ra_I]; simp only [Option.bind_some])
    rw [if_neg (nI_ge (show i < nm by omega) (by omega)), cfS_s]
    (rw [E_canFoldX d M (m := i) (by omega), ra_I]; simp only [Option.bind_some])
    rw [nI_1]
    cases cfB M i with
    | false =>
      rw [if_pos (show mb false = 0 by decide), if_neg (by decide)]
      exact ih (i + 1) f _ (by omega) (by omega)
    | true =>
      rw [if_neg (show ¬ mb true = 0 by decide), if_pos rfl]
      exact ih (i + 1) f _ (by omega) (by omega)
theorem L_cfM (h : CT n xs N gv M nc nm) (d : Nat) : ∀ (j i f : Nat) (a : Int32), i + j = nm → j < f → lp_X12_could n xs N (d + 2) f 4 [some (.ref 60), some (.int a), some (.int (nI i))] [] M = some (some (.int (cfS M i j a)), M) := by
  have h7 := h.nm7
  intro j
  induction j with
  | zero =>
    intro i f a hij hf
    obtain ⟨f, rfl⟩ : ∃ g, f = g + 1 := ⟨f - 1, by omega⟩
    rw [lu_X12_could_4, h.isM, if_pos (nI_le (by omega) (by omega)), cfS_0]
  | succ j ih =>
    intro i f a hij hf
    obtain ⟨f, rfl⟩ : ∃ g, f = g + 1 := ⟨f - 1, by omega⟩
    rw [lu_X12_could_4, h.isM, if_neg (nI_ge (show i < nm by omega) (by omega)), cfS_s]
    (rw [E_canFoldM h d (m := i) (by omega), ra_I]; simp only [Option.bind_some])
    rw [nI_1]
    cases cfB M i with
    | false =>
      rw [if_pos (show mb false = 0 by decide), if_neg (by decide)]
      exact ih (i + 1) f _ (by omega) (by omega)
    | true =>
      rw [if_neg (show ¬ mb true = 0 by decide), if_pos rfl]
      exact ih (i + 1) f _ (by omega) (by omega)
theorem L_drX (d : Nat) (M : mmM) : ∀ (k i f s : Nat), s < 2 ^ k → s ≤ 99 → k < f → lp_X11_doorsToFlat n xs N d f 10 [none, some (.int (nI i)), some (.int (nI s))] [] M = some (some (.int (nI (i + hl k s))), M) := by
  intro k
  induction k with
  | zero =>
    intro i f s hs h99 hf
    obtain ⟨f, rfl⟩ : ∃ g, f = g + 1 := ⟨f - 1, by omega⟩
    rw [lu_X11_doorsToFlat_10, if_pos (by rw [nI_le0 (by omega)]; omega), hl_0, Nat.add_zero]
  | succ k ih =>
    intro i f s hs h99 hf
    obtain ⟨f, rfl⟩ : ∃ g, f = g + 1 := ⟨f - 1, by omega⟩
    rw [lu_X11_doorsToFlat_10, hl_s]
    simp only [nI_le0 (show s < 2 ^ 31 by omega), c20, if_false]
    by_cases h0 : s = 0
    · rw [if_pos h0, if_pos h0, Nat.add_zero]
    · rw [if_neg h0, if_neg h0, half_nI h99, nI_1, ih (i + 1) f (s / 2) (by rw [Nat.pow_succ] at hs; omega) (by omega) (by omega), Nat.add_assoc]
theorem L_drM (d : Nat) (M : mmM) : ∀ (k i f s : Nat), s < 2 ^ k → s ≤ 99 → k < f → lp_X12_doors n xs N d f 10 [none, some (.int (nI i)), some (.int (nI s))] [] M = some (some (.int (nI (i + hl k s))), M) := by
  intro k
  induction k with
  | zero =>
    intro i f s hs h99 hf
    obtain ⟨f, rfl⟩ : ∃ g, f = g + 1 := ⟨f - 1, by omega⟩
    rw [lu_X12_doors_10, if_pos (by rw [nI_le0 (by omega)]; omega), hl_0, Nat.add_zero]
  | succ k ih =>
    intro i f s hs h99 hf
    obtain ⟨f, rfl⟩ : ∃ g, f = g + 1 := ⟨f - 1, by omega⟩
    rw [lu_X12_doors_10, hl_s]
    simp only [nI_le0 (show s < 2 ^ 31 by omega), c20, if_false]
    by_cases h0 : s = 0
    · rw [if_pos h0, if_pos h0, Nat.add_zero]
    · rw [if_neg h0, if_neg h0, half_nI h99, nI_1, ih (i + 1) f (s / 2) (by rw [Nat.pow_succ] at hs; omega) (by omega) (by omega), Nat.add_assoc]
/-- one value of both, nothing changed -/
def PP (n : Nat) (xs : Nat → Int32) (N d : Nat) (M : mmM) (iX : Nat) (aX : List Value) (iM : Nat) (aM : List Value) : Prop := ∃ v, mm_E n xs N d iX aX M = some (some (.int v), M) ∧ mm_E n xs N d iM aM M = some (some (.int v), M)
theorem P_min (h : CT n xs N gv M nc nm) (h0 : ¬ nm = 0) (d w : Nat) (hw : w < 4) : PP n xs N (d + 59) M 168 [.ref 16, .int (nI w)] 289 [.ref 60, .int (nI w)] := by
  have hN := h.nN
  have h7 := h.nm7
  refine ⟨nI (mxi (fun m => mm_I M 33 (12 + m * 4 + w)) 1 (nm - 1) 0), ?_, ?_⟩
  · rw [u_X11_firstMinisterByMost]
    exact L_fmX h.1 (d + 55) w hw (nm - 1) 1 N 0 (by omega) (by omega) (by omega)
  · rw [u_X12_topMinister]
    exact L_tmM h.1 (d + 57) w hw (nm - 1) 1 N 0 (by omega) (by omega) (by omega)
theorem CT.nc1 (h : CT n xs N gv M nc nm) (h0 : ¬ nm = 0) : 0 < nc := by
  have := h.1.2.2.1
  omega
theorem P_str (h : CT n xs N gv M nc nm) (h0 : ¬ nm = 0) (d : Nat) : PP n xs N (d + 59) M 169 [.ref 16] 290 [.ref 60, .int 1] := by
  have hN := h.nN
  have h4 := h.nc4
  have h1 := h.nc1 h0
  refine ⟨nI (mxi (fun c => mm_I M 37 c) 1 (nc - 1) 0), ?_, ?_⟩
  · rw [u_X11_strongestCook]
    exact L_scX h.1 (d + 56) (nc - 1) 1 N 0 (by omega) (by omega) (by omega)
  · rw [u_X12_topCook]
    exact L_tcW h (d + 58) (nc - 1) 1 N 0 (by omega) (by omega) (by omega)
theorem P_fre (h : CT n xs N gv M nc nm) (h0 : ¬ nm = 0) (d : Nat) : PP n xs N (d + 59) M 170 [.ref 16] 290 [.ref 60, .int 0] := by
  have hN := h.nN
  have h4 := h.nc4
  have h1 := h.nc1 h0
  refine ⟨nI (mxi (fun c => nI (lfN M c)) 1 (nc - 1) 0), ?_, ?_⟩
  · rw [u_X11_freshestCook]
    exact L_fcX h (d + 54) (nc - 1) 1 N 0 (by omega) (by omega) (by omega)
  · rw [u_X12_topCook]
    exact L_tcL h (d + 57) (nc - 1) 1 N 0 (by omega) (by omega) (by omega)
theorem P_cf (h : CT n xs N gv M nc nm) (d : Nat) : PP n xs N (d + 59) M 115 [.ref 16] 291 [.ref 60] := by
  have hN := h.nN
  have h7 := h.nm7
  refine ⟨cfS M 0 nm 0, ?_, ?_⟩
  · rw [u_X11_couldFold]
    exact L_cfX h.1 (d + 54) nm 0 N 0 (by omega) (by omega)
  · rw [u_X12_could]
    exact L_cfM h (d + 56) nm 0 N 0 (by omega) (by omega)
theorem P_dr (h : CT n xs N gv M nc nm) (d : Nat) : PP n xs N (d + 59) M 171 [.ref 16] 292 [.ref 60] := by
  have hN := h.nN
  obtain ⟨s, hs, es⟩ := bd_nI (h := 99) h.st
  refine ⟨nI (0 + hl 7 s), ?_, ?_⟩
  · rw [u_X11_doorsToFlat, es]
    exact L_drX (d + 58) M 7 0 N s (by omega) hs (by omega)
  · rw [u_X12_doors, h.b8, es]
    exact L_drM (d + 58) M 7 0 N s (by omega) hs (by omega)
theorem P_wg (h : CT n xs N gv M nc nm) (d : Nat) : PP n xs N (d + 59) M 112 [.ref 16, .int 0] 229 [.ref 60] := by
  have hN := h.nN
  exact ⟨_, E_weightX (d + 55) h.1 (by omega), E_weightM (d + 57) h.1 h.b10 (by omega)⟩
theorem P_wo (h : CT n xs N gv M nc nm) (d : Nat) : PP n xs N (d + 59) M 112 [.ref 16, .int 1] 230 [.ref 60] := by
  have hN := h.nN
  exact ⟨_, E_worthX (d + 55) h.1 (by omega), E_worthM (d + 57) h.1 h.b10 (by omega)⟩
theorem P_Q {d : Nat} {iX iM : Nat} {aX aM : List Value} {EX EM : mmM → Option mmR} (p : PP n xs N d M iX aX iM aM) (hX : ∀ M, EX M = (mm_aI (mm_E n xs N d iX aX M)).bind fun p => some (some (.int p.1), p.2)) (hM : ∀ M, EM M = (mm_aI (mm_E n xs N d iM aM M)).bind fun p => some (some (.int p.1), p.2)) : ∃ v M1 M2, EX M = some (some (.int v), M1) ∧ FR M M1 ∧ EM M1 = some (some (.int v), M2) ∧ FR M1 M2 := by
  obtain ⟨v, e1, e2⟩ := p
  refine ⟨v, M, M, ?_, FR.rf, ?_, FR.rf⟩
  · rw [hX]
    (rw [e1, ra_I]; simp only [Option.bind_some])
  · rw [hM]
    (rw [e2, ra_I]; simp only [Option.bind_some])
theorem Q_most (h : CT n xs N gv M nc nm) (d : Nat) (x : Int32) : QQ n xs N (d + 60) M 167 [.ref 16, .int x] 293 [.ref 60, .int x] := by
  by_cases h0 : nm = 0
  · unfold QQ
    rw [u_X11_most]
    simp only [u_X12_most]
    refine ⟨-1, M, M, ?_, FR.rf, ?_, FR.rf⟩
    · rw [if_pos (h.X0 h0).1]
    · rw [if_pos (h.X0 h0).2]
  · have key : ∀ v, mm_E n xs N (d + 60) 167 [.ref 16, .int x] M = some (some (.int v), M) → mm_E n xs N (d + 60) 293 [.ref 60, .int x] M = some (some (.int v), M) → QQ n xs N (d + 60) M 167 [.ref 16, .int x] 293 [.ref 60, .int x] := fun v a b => ⟨v, M, M, a, FR.rf, b, FR.rf⟩
    have hX := u_X11_most n xs N (d + 59) M x
    have hM := u_X12_most n xs N (d + 59) M x
    rw [if_neg (h.X1 h0).1] at hX
    rw [if_neg (h.X1 h0).2] at hM
    by_cases g0 : x = 0
    · obtain ⟨v, e1, e2⟩ := P_min h h0 d 0 (by omega)
      rw [nI_0] at e1 e2
      refine key v (hX.trans ?_) (hM.trans ?_)
      · rw [if_pos g0]
        (rw [e1, ra_I]; simp only [Option.bind_some])
      · rw [if_pos g0]
        (rw [e2, ra_I]; simp only [Option.bind_some])
    rw [if_neg g0] at hX hM
    by_cases g1 : x = 1
    · obtain ⟨v, e1, e2⟩ := P_min h h0 d 1 (by omega)
      refine key v (hX.trans ?_) (hM.trans ?_)
      · rw [if_pos g1]
        (rw [(show mm_E n xs N (d + 59) 168 [.ref 16, .int 1] M = _ from e1), ra_I]; simp only [Option.bind_some])
      · rw [if_pos g1]
        (rw [(show mm_E n xs N (d + 59) 289 [.ref 60, .int 1] M = _ from e2), ra_I]; simp only [Option.bind_some])
    rw [if_neg g1] at hX hM
    by_cases g2 : x = 2
    · obtain ⟨v, e1, e2⟩ := P_min h h0 d 2 (by omega)
      refine key v (hX.trans ?_) (hM.trans ?_)
      · rw [if_pos g2]
        (rw [(show mm_E n xs N (d + 59) 168 [.ref 16, .int 2] M = _ from e1), ra_I]; simp only [Option.bind_some])
      · rw [if_pos g2]
        (rw [(show mm_E n xs N (d + 59) 289 [.ref 60, .int 2] M = _ from e2), ra_I]; simp only [Option.bind_some])
    rw [if_neg g2] at hX hM
    by_cases g3 : x = 3
    · obtain ⟨v, e1, e2⟩ := P_str h h0 d
      refine key v (hX.trans ?_) (hM.trans ?_)
      · rw [if_pos g3]
        (rw [e1, ra_I]; simp only [Option.bind_some])
      · rw [if_pos g3]
        (rw [e2, ra_I]; simp only [Option.bind_some])
    rw [if_neg g3] at hX hM
    by_cases g4 : x = 4
    · obtain ⟨v, e1, e2⟩ := P_fre h h0 d
      refine key v (hX.trans ?_) (hM.trans ?_)
      · rw [if_pos g4]
        (rw [e1, ra_I]; simp only [Option.bind_some])
      · rw [if_pos g4]
        (rw [e2, ra_I]; simp only [Option.bind_some])
    rw [if_neg g4] at hX hM
    by_cases g5 : x = 5
    · refine key (mm_I M 35 2) (hX.trans ?_) (hM.trans ?_)
      · rw [if_pos g5]
      · rw [if_pos g5, h.b10]
    rw [if_neg g5] at hX hM
    by_cases g6 : x = 6
    · obtain ⟨v, e1, e2⟩ := P_cf h d
      refine key v (hX.trans ?_) (hM.trans ?_)
      · rw [if_pos g6]
        (rw [e1, ra_I]; simp only [Option.bind_some])
      · rw [if_pos g6]
        (rw [e2, ra_I]; simp only [Option.bind_some])
    rw [if_neg g6] at hX hM
    by_cases g7 : x = 7
    · obtain ⟨v, e1, e2⟩ := P_wg h d
      refine key v (hX.trans ?_) (hM.trans ?_)
      · rw [if_pos g7]
        (rw [e1, ra_I]; simp only [Option.bind_some])
      · rw [if_pos g7]
        (rw [e2, ra_I]; simp only [Option.bind_some])
    rw [if_neg g7] at hX hM
    by_cases g8 : x = 8
    · obtain ⟨v, e1, e2⟩ := P_dr h d
      refine key v (hX.trans ?_) (hM.trans ?_)
      · rw [if_pos g8]
        (rw [e1, ra_I]; simp only [Option.bind_some])
      · rw [if_pos g8]
        (rw [e2, ra_I]; simp only [Option.bind_some])
    rw [if_neg g8] at hX hM
    by_cases g9 : x = 9
    · obtain ⟨v, e1, e2⟩ := P_wo h d
      refine key v (hX.trans ?_) (hM.trans ?_)
      · rw [if_pos g9]
        (rw [e1, ra_I]; simp only [Option.bind_some])
      · rw [if_pos g9]
        (rw [e2, ra_I]; simp only [Option.bind_some])
    rw [if_neg g9] at hX hM
    exact key (-1) hX hM
end MO
