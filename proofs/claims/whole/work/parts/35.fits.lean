/-! which yolk fits what was seen -/
def RS (M : mmM) (nc k : Nat) : Prop := k ≤ 10 ∧ mm_I M 47 4 = nI k ∧ mm_I M 60 43 = nI k ∧ ∀ i, i < k → mm_I M 81 i = mm_I M 48 i ∧ mm_I M 82 i = mm_I M 49 i ∧ mm_I M 83 i = mm_I M 50 i ∧ mm_I M 84 i = mm_I M 51 i ∧ (∃ c, c < nc ∧ mm_I M 48 i = nI c) ∧ ∃ t, 1 ≤ t ∧ t ≤ 40 ∧ mm_I M 49 i = nI t
theorem RS.mv {M M' : mmM} {nc k : Nat} (h : RS M nc k) (f : FR M M') : RS M' nc k := by
  unfold RS at h ⊢
  rw [f.I (show scr 47 = false by decide), f.I (show scr 48 = false by decide), f.I (show scr 49 = false by decide), f.I (show scr 50 = false by decide), f.I (show scr 51 = false by decide), f.I (show scr 81 = false by decide), f.I (show scr 82 = false by decide), f.I (show scr 83 = false by decide), f.I (show scr 84 = false by decide), f.2.2.2.2.2.2.1 43 (by decide) (by decide)]
  exact h
/-- does the i-th note bear out that it stood v -/
def okN (M : mmM) (v : Int32) (i : Nat) : Bool := if v < mm_I M 50 i then decide (0 = mm_I M 51 i) else decide (1 = mm_I M 51 i)
/-- a morning of t strokes -/
def mo (gv : Int32 → Int32 → Int32 → Int32 → Int32) (w y : Int32) : Nat → Int32
  | 0 => 0
  | t + 1 => stk gv w (mo gv w y t) (nI t) y
theorem mo_s (gv : Int32 → Int32 → Int32 → Int32 → Int32) (w y : Int32) (t : Nat) : mo gv w y (t + 1) = stk gv w (mo gv w y t) (nI t) y := rfl
theorem mo_bd (gv : Int32 → Int32 → Int32 → Int32 → Int32) (w y : Int32) : ∀ t, bd 0 99 (mo gv w y t)
  | 0 => by unfold mo bd; decide
  | t + 1 => stk_bd _ _ _ _
def agP (M : mmM) (c t : Nat) (v : Int32) (i : Nat) : Bool := decide (mm_I M 48 i = nI c) && (decide (mm_I M 49 i = nI t) && !okN M v i)
def fuI (M : mmM) (c i j : Nat) (a : Int32) : Int32 := foldI (fun i a => if mm_I M 48 i = nI c then i_max a (mm_I M 49 i) else a) i j a
theorem fuI_0 (M : mmM) (c i : Nat) (a : Int32) : fuI M c i 0 a = a := rfl
theorem fuI_s (M : mmM) (c i j : Nat) (a : Int32) : fuI M c i (j + 1) a = fuI M c (i + 1) j (if mm_I M 48 i = nI c then i_max a (mm_I M 49 i) else a) := rfl
theorem i_max_nI {a b : Nat} (ha : a < 2 ^ 31) (hb : b < 2 ^ 31) : i_max (nI a) (nI b) = nI (max a b) := by
  unfold i_max
  by_cases h : a < b
  · rw [if_pos (nI_lt h hb), Nat.max_eq_right (by omega)]
  · rw [if_neg (nI_nlt (by omega) ha), Nat.max_eq_left (by omega)]
theorem fu_ex {M : mmM} {c : Nat} : ∀ (j i a : Nat), a ≤ 40 → (∀ m, i ≤ m → m < i + j → ∃ t, 1 ≤ t ∧ t ≤ 40 ∧ mm_I M 49 m = nI t) → ∃ F, a ≤ F ∧ F ≤ 40 ∧ fuI M c i j (nI a) = nI F ∧ ∀ m t, i ≤ m → m < i + j → mm_I M 48 m = nI c → mm_I M 49 m = nI t → t ≤ 40 → t ≤ F
  | 0, i, a, ha, _ => ⟨a, Nat.le_refl _, ha, rfl, fun m t h1 h2 => by omega⟩
  | j + 1, i, a, ha, h => by
    obtain ⟨t, t1, t2, e⟩ := h i (by omega) (by omega)
    have h' : ∀ m, i + 1 ≤ m → m < i + 1 + j → ∃ t, 1 ≤ t ∧ t ≤ 40 ∧ mm_I M 49 m = nI t := fun m h1 h2 => h m (by omega) (by omega)
    by_cases q : mm_I M 48 i = nI c
    · obtain ⟨F, f1, f2, f3, f4⟩ := fu_ex (c := c) j (i + 1) (max a t) (by omega) h'
      refine ⟨F, by omega, f2, ?_, fun m t' h1 h2 h3 h4 h5 => ?_⟩
      · rw [fuI_s, if_pos q, e, i_max_nI (by omega) (by omega)]
        exact f3
      · by_cases hm : m = i
        · subst hm
          have : t' = t := (nI_eq (by omega) (by omega)).mp (h4.symm.trans e)
          omega
        · exact f4 m t' (by omega) (by omega) h3 h4 h5
    · obtain ⟨F, f1, f2, f3, f4⟩ := fu_ex (c := c) j (i + 1) a ha h'
      refine ⟨F, f1, f2, ?_, fun m t' h1 h2 h3 h4 h5 => ?_⟩
      · rw [fuI_s, if_neg q]
        exact f3
      · by_cases hm : m = i
        · subst hm; exact absurd h3 q
        · exact f4 m t' (by omega) (by omega) h3 h4 h5
def FU (M : mmM) (k c : Nat) : Nat := (fuI M c 0 k 0).toNatClampNeg
theorem FU_ex {M : mmM} {nc k : Nat} (h : RS M nc k) (c : Nat) : fuI M c 0 k 0 = nI (FU M k c) ∧ FU M k c ≤ 40 ∧ ∀ m t, m < k → mm_I M 48 m = nI c → mm_I M 49 m = nI t → t ≤ 40 → t ≤ FU M k c := by
  obtain ⟨F, f1, f2, f3, f4⟩ := fu_ex (M := M) (c := c) k 0 0 (by omega) (fun m _ hm => (h.2.2.2 m (by omega)).2.2.2.2.2)
  have e : fuI M c 0 k 0 = nI F := f3
  have : FU M k c = F := by unfold FU; rw [e, nI_clamp (by omega)]
  rw [this]
  exact ⟨e, f2, fun m t hm => f4 m t (by omega) (by omega)⟩
def cN (M : mmM) (i : Nat) : Nat := (mm_I M 48 i).toNatClampNeg
def tN (M : mmM) (i : Nat) : Nat := (mm_I M 49 i).toNatClampNeg
def fitP (gv : Int32 → Int32 → Int32 → Int32 → Int32) (M : mmM) (k y : Nat) : Bool := !anyB (fun i => !okN M (mo gv (mm_I M 37 (cN M i)) (nI y) (tN M i)) i) 0 k
/-- as the class finds it -/
def agC (gv : Int32 → Int32 → Int32 → Int32 → Int32) (M : mmM) (k y c t : Nat) : Bool := anyB (agP M c t (mo gv (mm_I M 37 c) (nI y) t)) 0 k
def agD (gv : Int32 → Int32 → Int32 → Int32 → Int32) (M : mmM) (k y c : Nat) : Bool := anyB (agC gv M k y c) 1 (FU M k c)
theorem fit_eq {gv : Int32 → Int32 → Int32 → Int32 → Int32} {M : mmM} {nc k : Nat} (h4 : nc ≤ 4) (h : RS M nc k) (y : Nat) : anyB (agD gv M k y) 0 nc = !fitP gv M k y := by
  have key : anyB (agD gv M k y) 0 nc = true ↔ anyB (fun i => !okN M (mo gv (mm_I M 37 (cN M i)) (nI y) (tN M i)) i) 0 k = true := by
    rw [anyB_iff, anyB_iff]
    constructor
    · rintro ⟨c, -, hc, h1⟩
      obtain ⟨t, t1, t2, h2⟩ := (anyB_iff _ _).mp h1
      obtain ⟨i, -, hi, h3⟩ := (anyB_iff _ _).mp h2
      unfold agP at h3
      simp only [Bool.and_eq_true, decide_eq_true_eq] at h3
      obtain ⟨a1, a2, a3⟩ := h3
      have f2 := (FU_ex h c).2.1
      have ec : cN M i = c := by unfold cN; rw [a1, nI_clamp (by omega)]
      have et : tN M i = t := by unfold tN; rw [a2, nI_clamp (by omega)]
      exact ⟨i, by omega, hi, by rw [ec, et]; exact a3⟩
    · rintro ⟨i, -, hi, h1⟩
      obtain ⟨-, -, -, -, ⟨c, hc, ec⟩, t, t1, t2, et⟩ := h.2.2.2 i (by omega)
      have ec' : cN M i = c := by unfold cN; rw [ec, nI_clamp (by omega)]
      have et' : tN M i = t := by unfold tN; rw [et, nI_clamp (by omega)]
      rw [ec', et'] at h1
      have hF := (FU_ex h c).2.2 i t (by omega) ec et t2
      refine ⟨c, by omega, by omega, (anyB_iff _ _).mpr ⟨t, t1, by omega, (anyB_iff _ _).mpr ⟨i, by omega, hi, ?_⟩⟩⟩
      unfold agP
      rw [decide_eq_true ec, decide_eq_true et, h1]
      rfl
  unfold fitP
  rw [Bool.not_not]
  cases hA : anyB (agD gv M k y) 0 nc with
  | true => exact (key.mp hA).symm
  | false =>
    cases hB : anyB (fun i => !okN M (mo gv (mm_I M 37 (cN M i)) (nI y) (tN M i)) i) 0 k with
    | true => rw [key.mpr hB] at hA; exact hA.symm
    | false => rfl
section FT
variable {n : Nat} {xs : Nat → Int32} {N : Nat} {gv : Int32 → Int32 → Int32 → Int32 → Int32} {M M' M0 : mmM} {nc nm k : Nat}
theorem L_against (hS : RS M0 nc k) (fr : FR M0 M) (d c t : Nat) (v : Int32) : ∀ (j i f : Nat), i + j = k → j < f → lp_X8_isAgainst n xs N d f 3 [some (.ref 47), some (.int (nI c)), some (.int (nI t)), some (.int v), some (.int (nI i))] [] M = some (some (.int (mb (anyB (agP M0 c t v) i j))), M) := by
  have hk := hS.1
  have hk' : mm_I M 47 4 = nI k := by rw [fr.I (by decide)]; exact hS.2.1
  intro j
  induction j with
  | zero =>
    intro i f hij hf
    obtain ⟨f, rfl⟩ : ∃ g, f = g + 1 := ⟨f - 1, by omega⟩
    rw [lu_X8_isAgainst_3, hk', if_pos (nI_le (by omega) (by omega))]
    rfl
  | succ j ih =>
    intro i f hij hf
    obtain ⟨f, rfl⟩ : ∃ g, f = g + 1 := ⟨f - 1, by omega⟩
    have hn := ih (i + 1) f (by omega) (by omega)
    rw [lu_X8_isAgainst_3, hk', if_neg (nI_ge (show i < k by omega) (by omega)), show (10 : Int32) = nI 10 from rfl, if_neg (nI_ge (show i < 10 by omega) (by omega)), anyB_s]
    simp only [mm_inb_nI (show i < 10 by omega) (by omega), cond_true, nI_clamp (show i < 2 ^ 31 by omega), fr.I (show scr 48 = false by decide), fr.I (show scr 49 = false by decide), fr.I (show scr 50 = false by decide), fr.I (show scr 51 = false by decide), nI_1, hn]
    unfold agP okN
    by_cases h1 : mm_I M0 48 i = nI c
    · by_cases h2 : mm_I M0 49 i = nI t
      · by_cases h3 : v < mm_I M0 50 i
        · by_cases h5 : 0 = mm_I M0 51 i
          · simp only [h1, h2, h3, ← h5, if_true, decide_true, Bool.not_true, Bool.and_false, Bool.false_or]
          · simp only [h1, h2, h3, h5, if_true, if_false, decide_true, decide_false, Bool.not_false, Bool.and_self, Bool.true_or, mb_t]
        · by_cases h5 : 1 = mm_I M0 51 i
          · simp only [h1, h2, h3, ← h5, if_true, if_false, decide_true, Bool.not_true, Bool.and_false, Bool.false_or]
          · simp only [h1, h2, h3, h5, if_true, if_false, decide_true, decide_false, Bool.not_false, Bool.and_self, Bool.true_or, mb_t]
      · simp only [h1, h2, if_true, if_false, decide_true, decide_false, Bool.false_and, Bool.and_false, Bool.false_or]
    · simp only [h1, if_false, decide_false, Bool.false_and, Bool.false_or]
theorem E_against (hS : RS M0 nc k) (fr : FR M0 M) (hN : 100 ≤ N) (d c t : Nat) (v : Int32) : mm_E n xs N (d + 1) 68 [.ref 47, .int (nI c), .int (nI t), .int v] M = some (some (.int (mb (anyB (agP M0 c t v) 0 k))), M) := by
  have hk := hS.1
  rw [u_X8_isAgainst]
  exact L_against hS fr d c t v k 0 N (by omega) (by omega)
theorem L_furth (hS : RS M0 nc k) (fr : FR M0 M) (d c : Nat) : ∀ (j i f : Nat) (a : Int32), i + j = k → j < f → lp_X8_furthestOf n xs N (d + 1) f 4 [some (.ref 47), some (.int (nI c)), some (.int a), some (.int (nI i))] [] M = some (some (.int (fuI M0 c i j a)), M) := by
  have hk := hS.1
  have hk' : mm_I M 47 4 = nI k := by rw [fr.I (by decide)]; exact hS.2.1
  intro j
  induction j with
  | zero =>
    intro i f a hij hf
    obtain ⟨f, rfl⟩ : ∃ g, f = g + 1 := ⟨f - 1, by omega⟩
    rw [lu_X8_furthestOf_4, hk', if_pos (nI_le (by omega) (by omega)), fuI_0]
  | succ j ih =>
    intro i f a hij hf
    obtain ⟨f, rfl⟩ : ∃ g, f = g + 1 := ⟨f - 1, by omega⟩
    rw [lu_X8_furthestOf_4, hk', if_neg (nI_ge (show i < k by omega) (by omega)), show (10 : Int32) = nI 10 from rfl, if_neg (nI_ge (show i < 10 by omega) (by omega)), fuI_s]
    simp only [mm_inb_nI (show i < 10 by omega) (by omega), cond_true, nI_clamp (show i < 2 ^ 31 by omega), fr.I (show scr 48 = false by decide), fr.I (show scr 49 = false by decide), nI_1]
    by_cases h1 : mm_I M0 48 i = nI c
    · rw [if_pos h1, if_pos h1]
      (rw [E_max d M _ _, ra_I]; simp only [Option.bind_some])
      exact ih (i + 1) f _ (by omega) (by omega)
    · rw [if_neg h1, if_neg h1]
      exact ih (i + 1) f a (by omega) (by omega)
theorem E_furth (hS : RS M0 nc k) (fr : FR M0 M) (hN : 100 ≤ N) (d c : Nat) : mm_E n xs N (d + 2) 67 [.ref 47, .int (nI c)] M = some (some (.int (nI (FU M0 k c))), M) := by
  have hk := hS.1
  rw [u_X8_furthestOf, ← (FU_ex hS c).1]
  exact L_furth hS fr d c k 0 N 0 (by omega) (by omega)
/-- the class's walk through one cook's strokes -/
theorem L_fitI (hS : RS M0 nc k) (d y c : Nat) (hy : y ≤ 9) (hc : c < nc) (F : Nat) (hF : F ≤ 40) : ∀ (j u f : Nat) (M : mmM), CT n xs N gv M nc nm → FR M0 M → u + j = F → ∃ M1, SX M M1 ∧ lp_X11_isFitting n xs N (d + 9) (f + j + 1) 39 [some (.ref 16), some (.int (nI y)), some (.int (nI c)), some (.int (mm_I M0 37 c)), some (.int (nI F)), some (.int (mo gv (mm_I M0 37 c) (nI y) u)), some (.int (nI (u + 1)))] [] M = if anyB (agC gv M0 k y c) (u + 1) j = true then some (some (.int 0), M1) else lp_X11_isFitting n xs N (d + 9) f 2 [some (.ref 16), some (.int (nI y)), some (.int (nI (c + 1))), none, none, none, none] [] M1 := by
  intro j
  induction j with
  | zero =>
    intro u f M h fr huj
    refine ⟨M, SX.rf, ?_⟩
    rw [Nat.add_zero, lu_X11_isFitting_39, if_pos (nI_lt (by omega) (by omega)), nI_1, if_neg (show ¬ anyB (agC gv M0 k y c) (u + 1) 0 = true from fun q => by cases q)]
  | succ j ih =>
    intro u f M h fr huj
    have hN := h.nN
    have w9 : bd 0 9 (mm_I M0 37 c) := by rw [← fr.I (show scr 37 = false by decide)]; exact h.w9 hc
    obtain ⟨M1, e1, s1⟩ := E_wh h d w9 (mo_bd gv (mm_I M0 37 c) (nI y) u) (k := nI u) (nI_bd (h := 999) (by omega) (by omega)) (nI_bd (h := 9) hy (by omega))
    obtain ⟨M2, s2, e2⟩ := ih (u + 1) f M1 (h.sx s1) (fr.tr s1.fr) (by omega)
    by_cases q : agC gv M0 k y c (u + 1) = true
    · refine ⟨M1, s1, ?_⟩
      rw [← Nat.add_assoc f j 1, lu_X11_isFitting_39, if_neg (nI_nlt (by omega) (by omega)), nI_pred]
      (rw [e1, ra_I]; simp only [Option.bind_some])
      rw [← mo_s]
      (rw [E_against hS (fr.tr s1.fr) (by omega) (d + 8) c (u + 1) _, ra_I]; simp only [Option.bind_some])
      have q' := q
      unfold agC at q
      rw [q, if_neg (show ¬ mb true = 0 by decide), anyB_s, q', Bool.true_or, if_pos rfl]
    · refine ⟨M2, s1.tr s2, ?_⟩
      rw [← Nat.add_assoc f j 1, lu_X11_isFitting_39, if_neg (nI_nlt (by omega) (by omega)), nI_pred]
      (rw [e1, ra_I]; simp only [Option.bind_some])
      rw [← mo_s]
      (rw [E_against hS (fr.tr s1.fr) (by omega) (d + 8) c (u + 1) _, ra_I]; simp only [Option.bind_some])
      have q' : agC gv M0 k y c (u + 1) = false := by cases hh : agC gv M0 k y c (u + 1) with
        | true => exact absurd hh q
        | false => rfl
      have q'' := q'
      unfold agC at q'
      rw [q', if_pos (show mb false = 0 by decide), nI_1, anyB_s, q'', Bool.false_or, e2]
theorem fo_in (hS : RS M0 nc k) (h : CT n xs N gv M nc nm) (fr : FR M0 M) {d y c f : Nat} (hc : c < nc) : lp_X11_isFitting n xs N (d + 9) (f + 1) 2 [some (.ref 16), some (.int (nI y)), some (.int (nI c)), none, none, none, none] [] M = lp_X11_isFitting n xs N (d + 9) f 39 [some (.ref 16), some (.int (nI y)), some (.int (nI c)), some (.int (mm_I M0 37 c)), some (.int (nI (FU M0 k c))), some (.int 0), some (.int 1)] [] M := by
  have h4 := h.nc4
  have hN := h.nN
  rw [lu_X11_isFitting_2]
  (rw [hM1 (d + 7) h.1, ra_I]; simp only [Option.bind_some])
  rw [if_neg (nI_ge hc (by omega))]
  (rw [E_wristOf (d + 8) M c (by omega), ra_I]; simp only [Option.bind_some])
  rw [fr.I (show scr 37 = false by decide)]
  (rw [E_furth hS fr (by omega) (d + 7) c, ra_I]; simp only [Option.bind_some])
theorem L_fitO (hS : RS M0 nc k) (d y : Nat) (hy : y ≤ 9) : ∀ (j c f : Nat) (M : mmM), CT n xs N gv M nc nm → FR M0 M → c + j = nc → 42 * j < f → ∃ M1, SX M M1 ∧ lp_X11_isFitting n xs N (d + 9) f 2 [some (.ref 16), some (.int (nI y)), some (.int (nI c)), none, none, none, none] [] M = some (some (.int (mb (!anyB (agD gv M0 k y) c j))), M1) := by
  intro j
  induction j with
  | zero =>
    intro c f M h fr hcj hf
    have h4 := h.nc4
    obtain ⟨f, rfl⟩ : ∃ g, f = g + 1 := ⟨f - 1, by omega⟩
    refine ⟨M, SX.rf, ?_⟩
    rw [lu_X11_isFitting_2]
    (rw [hM1 (d + 7) h.1, ra_I]; simp only [Option.bind_some])
    rw [if_pos (nI_le (by omega) (by omega))]
    rfl
  | succ j ih =>
    intro c f M h fr hcj hf
    have h4 := h.nc4
    have hN := h.nN
    have hF := (FU_ex hS c).2.1
    obtain ⟨g, rfl⟩ : ∃ g, f = (g + FU M0 k c + 1) + 1 := ⟨f - FU M0 k c - 2, by omega⟩
    obtain ⟨M1, s1, e1⟩ := L_fitI (n := n) (xs := xs) (N := N) hS d y c hy (by omega) (FU M0 k c) hF (FU M0 k c) 0 g M h fr (by omega)
    rw [show nI (0 + 1) = (1 : Int32) from rfl, show mo gv (mm_I M0 37 c) (nI y) 0 = (0 : Int32) from rfl] at e1
    rw [fo_in hS h fr (by omega), e1, anyB_s]
    cases q : agD gv M0 k y c with
    | true =>
      have q' := q
      unfold agD at q'
      rw [if_pos q', Bool.true_or, Bool.not_true, mb_f]
      exact ⟨M1, s1, rfl⟩
    | false =>
      have q' := q
      unfold agD at q'
      rw [if_neg (show ¬ anyB (agC gv M0 k y c) (0 + 1) (FU M0 k c) = true from fun w => by rw [q'] at w; cases w), Bool.false_or]
      obtain ⟨M2, s2, e2⟩ := ih (c + 1) g M1 (h.sx s1) (fr.tr s1.fr) (by omega) (by omega)
      exact ⟨M2, s1.tr s2, e2⟩
theorem E_fitX (hS : RS M0 nc k) (h : CT n xs N gv M nc nm) (fr : FR M0 M) (d y : Nat) (hy : y ≤ 9) : ∃ M1, SX M M1 ∧ mm_E n xs N (d + 10) 156 [.ref 16, .int (nI y)] M = some (some (.int (mb (fitP gv M0 k y))), M1) := by
  have h4 := h.nc4
  have hN := h.nN
  rw [u_X11_isFitting]
  obtain ⟨M1, s1, e1⟩ := L_fitO (n := n) (xs := xs) (N := N) hS d y hy nc 0 N M h fr (by omega) (by omega)
  refine ⟨M1, s1, ?_⟩
  rw [fit_eq h4 hS, Bool.not_not] at e1
  exact e1
theorem L_fyX (hS : RS M0 nc k) (d : Nat) : ∀ (j i f : Nat) (a : Int32) (M : mmM), CT n xs N gv M nc nm → FR M0 M → i + j = 10 → j < f → ∃ M1, SX M M1 ∧ lp_X11_fittingYolks n xs N (d + 10) f 4 [some (.ref 16), some (.int a), some (.int (nI i))] [] M = some (some (.int (fyS (fitP gv M0 k) i j a)), M1) := by
  intro j
  induction j with
  | zero =>
    intro i f a M h fr hij hf
    obtain ⟨f, rfl⟩ : ∃ g, f = g + 1 := ⟨f - 1, by omega⟩
    refine ⟨M, SX.rf, ?_⟩
    rw [lu_X11_fittingYolks_4, show (9 : Int32) = nI 9 from rfl, if_pos (nI_lt (by omega) (by omega))]
    rfl
  | succ j ih =>
    intro i f a M h fr hij hf
    obtain ⟨f, rfl⟩ : ∃ g, f = g + 1 := ⟨f - 1, by omega⟩
    obtain ⟨M1, s1, e1⟩ := E_fitX hS h fr d i (by omega)
    obtain ⟨M2, s2, e2⟩ := ih (i + 1) f (if fitP gv M0 k i = true then a ||| ((1 : Int32) <<< (nI i &&& 31)) else a ||| 0) M1 (h.sx s1) (fr.tr s1.fr) (by omega) (by omega)
    refine ⟨M2, s1.tr s2, ?_⟩
    rw [lu_X11_fittingYolks_4, show (9 : Int32) = nI 9 from rfl, if_neg (nI_nlt (by omega) (by omega))]
    (rw [e1, ra_I]; simp only [Option.bind_some])
    rw [fyS_s, nI_1, ← e2]
    cases fitP gv M0 k i with
    | false => rw [if_pos (show mb false = 0 by decide), if_neg (by decide)]
    | true => rw [if_neg (show ¬ mb true = 0 by decide), if_pos rfl]
theorem E_fyX (hS : RS M0 nc k) (h : CT n xs N gv M nc nm) (fr : FR M0 M) (d : Nat) : ∃ M1, SX M M1 ∧ mm_E n xs N (d + 11) 155 [.ref 16] M = some (some (.int (fyS (fitP gv M0 k) 0 10 0)), M1) := by
  have hN := h.nN
  rw [u_X11_fittingYolks]
  exact L_fyX hS d 10 0 N 0 M h fr (by omega) (by omega)
theorem L_place (d : Nat) (M : mmM) (s x : Int32) (hx : ¬ x = -1) : ∀ (j i m f : Nat), i + j = 31 → j < f → lp_X11_placeOfBit n xs N d f 4 [some (.int s), some (.int x), some (.int (nI m)), some (.int (nI i))] [] M = some (some (.int (rsL (ib s) nI x j i m)), M) := by
  intro j
  induction j with
  | zero =>
    intro i m f hij hf
    obtain ⟨f, rfl⟩ : ∃ g, f = g + 1 := ⟨f - 1, by omega⟩
    rw [lu_X11_placeOfBit_4, show (31 : Int32) = nI 31 from rfl, if_pos (nI_le (by omega) (by omega)), rsL_e, if_neg hx]
  | succ j ih =>
    intro i m f hij hf
    obtain ⟨f, rfl⟩ : ∃ g, f = g + 1 := ⟨f - 1, by omega⟩
    rw [lu_X11_placeOfBit_4, if_neg (show ¬ (31 : Int32) ≤ nI i from nI_ge (b := 31) (by omega) (by omega)), rsL_s, nI_1, nI_1]
    simp only [ib_ne]
    cases ib s i with
    | false =>
      rw [if_pos rfl, if_neg (by decide)]
      exact ih (i + 1) m f (by omega) (by omega)
    | true =>
      rw [if_neg (by decide), if_pos rfl]
      by_cases q : nI m = x
      · rw [if_pos q, if_pos q]
      · rw [if_neg q, if_neg q]
        exact ih (i + 1) (m + 1) f (by omega) (by omega)
theorem rs_fy (p : Nat → Bool) (x : Int32) : rsL (ib (fyS p 0 10 0)) nI x 31 0 0 = rsL p nI x 10 0 0 := by
  rw [show (31 : Nat) = 10 + 21 from rfl, rsL_cut 10 0 0 (fun y h1 h2 => by rw [fyS_ib p (by omega) (by omega), decide_eq_false (by omega), Bool.false_and])]
  exact rsL_congr 10 0 0 (fun y h1 h2 => by rw [fyS_ib p (by omega) (by omega), decide_eq_true (by omega), Bool.true_and])
theorem E_fitsX (hS : RS M0 nc k) (h : CT n xs N gv M nc nm) (h0 : ¬ nm = 0) (fr : FR M0 M) (d : Nat) (x : Int32) : ∃ M1, SX M M1 ∧ mm_E n xs N (d + 12) 153 [.ref 16, .int x] M = some (some (.int (rsL (fitP gv M0 k) nI x 10 0 0)), M1) := by
  have hN := h.nN
  rw [u_X11_fits, if_neg (h.X1 h0).1]
  obtain ⟨M1, s1, e1⟩ := E_fyX hS h fr d
  refine ⟨M1, s1, ?_⟩
  (rw [e1, ra_I]; simp only [Option.bind_some])
  by_cases hx : x = -1
  · rw [if_pos hx, hx]
    (rw [E_bitCount (d + 10) M1 (fitP gv M0 k), ra_I]; simp only [Option.bind_some])
    rw [rsL_all 10 0 0 (by omega), cntF_0, Nat.zero_add]
  · rw [if_neg hx]
    have e2 : mm_E n xs N (d + 11) 154 [.int (fyS (fitP gv M0 k) 0 10 0), .int x] M1 = some (some (.int (rsL (fitP gv M0 k) nI x 10 0 0)), M1) := by
      rw [u_X11_placeOfBit, ← rs_fy]
      exact L_place (d + 10) M1 _ x hx 31 0 0 N (by omega) (by omega)
    (rw [e2, ra_I]; simp only [Option.bind_some])
/-! of the model -/
theorem L_morn (d y c : Nat) (hy : y ≤ 9) (t : Nat) (ht : t ≤ 40) : ∀ (j i f : Nat) (M : mmM), CT n xs N gv M nc nm → FR M0 M → c < nc → i + j = t → j < f → ∃ M1, SM M M1 ∧ lp_X12_morning n xs N (d + 9) f 6 [some (.ref 60), some (.int (nI c)), some (.int (nI t)), some (.int (nI y)), some (.int (mo gv (mm_I M0 37 c) (nI y) i)), some (.int (nI i))] [] M = some (some (.int (mo gv (mm_I M0 37 c) (nI y) t)), M1) := by
  intro j
  induction j with
  | zero =>
    intro i f M h fr hc hij hf
    obtain ⟨f, rfl⟩ : ∃ g, f = g + 1 := ⟨f - 1, by omega⟩
    refine ⟨M, SM.rf, ?_⟩
    rw [lu_X12_morning_6, if_pos (nI_le (by omega) (by omega)), show i = t by omega]
  | succ j ih =>
    intro i f M h fr hc hij hf
    have h4 := h.nc4
    obtain ⟨f, rfl⟩ : ∃ g, f = g + 1 := ⟨f - 1, by omega⟩
    have ew : mm_I M 77 c = mm_I M0 37 c := by rw [(h.cm hc).1, fr.I (show scr 37 = false by decide)]
    have w9 : bd 0 9 (mm_I M0 37 c) := by rw [← fr.I (show scr 37 = false by decide)]; exact h.w9 hc
    obtain ⟨M1, e1, s1⟩ := h.2.2.2.1 M QM.rf d (mm_I M0 37 c) (mo gv (mm_I M0 37 c) (nI y) i) (nI i) (nI y) w9 (mo_bd _ _ _ _) (nI_bd (h := 999) (by omega) (by omega)) (nI_bd (h := 9) hy (by omega))
    obtain ⟨M2, s2, e2⟩ := ih (i + 1) f M1 (h.sm s1.SM) (fr.tr s1.SM.fr) hc (by omega) (by omega)
    refine ⟨M2, s1.SM.tr s2, ?_⟩
    rw [lu_X12_morning_6, if_neg (nI_ge (show i < t by omega) (by omega)), Int32.zero_add]
    simp only [mm_inb_nI (show c < 198 by omega) (by omega), cond_true, nI_clamp (show c < 2 ^ 31 by omega), ew]
    (rw [e1, ra_I]; simp only [Option.bind_some])
    rw [nI_1, ← mo_s]
    exact e2
theorem E_morn (h : CT n xs N gv M nc nm) (fr : FR M0 M) (d y c : Nat) (hy : y ≤ 9) (hc : c < nc) (t : Nat) (ht : t ≤ 40) : ∃ M1, SM M M1 ∧ mm_E n xs N (d + 10) 277 [.ref 60, .int (nI c), .int (nI t), .int (nI y)] M = some (some (.int (mo gv (mm_I M0 37 c) (nI y) t)), M1) := by
  have hN := h.nN
  rw [u_X12_morning]
  exact L_morn (M0 := M0) d y c hy t ht t 0 N M h fr hc (by omega) (by omega)
theorem L_yolk (hS : RS M0 nc k) (d y : Nat) (hy : y ≤ 9) : ∀ (j i f : Nat) (M : mmM), CT n xs N gv M nc nm → FR M0 M → i + j = k → j < f → ∃ M1, SM M M1 ∧ lp_X12_isYolk n xs N (d + 10) f 2 [some (.ref 60), some (.int (nI y)), some (.int (nI i))] [] M = some (some (.int (mb (!anyB (fun i => !okN M0 (mo gv (mm_I M0 37 (cN M0 i)) (nI y) (tN M0 i)) i) i j))), M1) := by
  have hk := hS.1
  intro j
  induction j with
  | zero =>
    intro i f M h fr hij hf
    obtain ⟨f, rfl⟩ : ∃ g, f = g + 1 := ⟨f - 1, by omega⟩
    have hk' : mm_I M 60 43 = nI k := by rw [fr.2.2.2.2.2.2.1 43 (by decide) (by decide)]; exact hS.2.2.1
    refine ⟨M, SM.rf, ?_⟩
    rw [lu_X12_isYolk_2, hk', if_pos (nI_le (by omega) (by omega))]
    rfl
  | succ j ih =>
    intro i f M h fr hij hf
    obtain ⟨f, rfl⟩ : ∃ g, f = g + 1 := ⟨f - 1, by omega⟩
    have h4 := h.nc4
    have hk' : mm_I M 60 43 = nI k := by rw [fr.2.2.2.2.2.2.1 43 (by decide) (by decide)]; exact hS.2.2.1
    obtain ⟨a81, a82, a83, a84, ⟨c, hc, ec⟩, t, t1, t2, et⟩ := hS.2.2.2 i (by omega)
    have ec' : cN M0 i = c := by unfold cN; rw [ec, nI_clamp (by omega)]
    have et' : tN M0 i = t := by unfold tN; rw [et, nI_clamp (by omega)]
    obtain ⟨M1, s1, e1⟩ := E_morn (n := n) (xs := xs) (N := N) h fr d y c hy hc t t2
    have fr1 := fr.tr s1.fr
    obtain ⟨M2, s2, e2⟩ := ih (i + 1) f M1 (h.sm s1) fr1 (by omega) (by omega)
    have b81 : mm_I M 81 i = nI c := by rw [fr.I (show scr 81 = false by decide), a81, ec]
    have b82 : mm_I M 82 i = nI t := by rw [fr.I (show scr 82 = false by decide), a82, et]
    have b83 : mm_I M1 83 i = mm_I M0 50 i := by rw [fr1.I (show scr 83 = false by decide), a83]
    have b84 : mm_I M1 84 i = mm_I M0 51 i := by rw [fr1.I (show scr 84 = false by decide), a84]
    rw [lu_X12_isYolk_2, hk', if_neg (nI_ge (show i < k by omega) (by omega))]
    simp only [mm_inb_nI (show i < 10 by omega) (by omega), cond_true, nI_clamp (show i < 2 ^ 31 by omega), b81, b82, e1, ra_I, Option.bind_some, b83, b84, nI_1, e2]
    rw [anyB_s, ec', et']
    unfold okN
    by_cases h3 : mo gv (mm_I M0 37 c) (nI y) t < mm_I M0 50 i
    · by_cases h5 : 0 = mm_I M0 51 i
      · refine ⟨M2, s1.tr s2, ?_⟩
        simp only [h3, ← h5, if_true, decide_true, Bool.not_true, Bool.false_or]
      · refine ⟨M1, s1, ?_⟩
        simp only [h3, h5, if_true, if_false, decide_false, Bool.not_false, Bool.true_or, Bool.not_true, mb_f]
    · by_cases h5 : 1 = mm_I M0 51 i
      · refine ⟨M2, s1.tr s2, ?_⟩
        simp only [h3, ← h5, if_true, if_false, decide_true, Bool.not_true, Bool.false_or]
      · refine ⟨M1, s1, ?_⟩
        simp only [h3, h5, if_true, if_false, decide_false, Bool.not_false, Bool.true_or, Bool.not_true, mb_f]
theorem E_yolk (hS : RS M0 nc k) (h : CT n xs N gv M nc nm) (fr : FR M0 M) (d y : Nat) (hy : y ≤ 9) : ∃ M1, SM M M1 ∧ mm_E n xs N (d + 11) 278 [.ref 60, .int (nI y)] M = some (some (.int (mb (fitP gv M0 k y))), M1) := by
  have hN := h.nN
  have hk := hS.1
  rw [u_X12_isYolk]
  exact L_yolk hS d y hy k 0 N M h fr (by omega) (by omega)
theorem L_fitsM (hS : RS M0 nc k) (d : Nat) (x : Int32) : ∀ (j i m f : Nat) (M : mmM), CT n xs N gv M nc nm → FR M0 M → i + j = 10 → j < f → ∃ M1, SM M M1 ∧ lp_X12_fits n xs N (d + 11) f 18 [some (.ref 60), some (.int x), some (.int (nI m)), some (.int (nI i))] [] M = some (some (.int (rsL (fitP gv M0 k) nI x j i m)), M1) := by
  intro j
  induction j with
  | zero =>
    intro i m f M h fr hij hf
    obtain ⟨f, rfl⟩ : ∃ g, f = g + 1 := ⟨f - 1, by omega⟩
    refine ⟨M, SM.rf, ?_⟩
    rw [lu_X12_fits_18, if_pos (show (9 : Int32) < nI i from nI_lt (a := 9) (by omega) (by omega)), rsL_e]
    split <;> rfl
  | succ j ih =>
    intro i m f M h fr hij hf
    obtain ⟨f, rfl⟩ : ∃ g, f = g + 1 := ⟨f - 1, by omega⟩
    obtain ⟨M1, s1, e1⟩ := E_yolk (n := n) (xs := xs) (N := N) hS h fr d i (by omega)
    have fr1 := fr.tr s1.fr
    rw [lu_X12_fits_18, if_neg (show ¬ (9 : Int32) < nI i from nI_nlt (a := 9) (by omega) (by omega)), rsL_s, nI_1, nI_1]
    (rw [e1, ra_I]; simp only [Option.bind_some])
    cases fitP gv M0 k i with
    | false =>
      rw [if_pos (show mb false = 0 by decide), if_neg (by decide)]
      obtain ⟨M2, s2, e2⟩ := ih (i + 1) m f M1 (h.sm s1) fr1 (by omega) (by omega)
      exact ⟨M2, s1.tr s2, e2⟩
    | true =>
      rw [if_neg (show ¬ mb true = 0 by decide), if_pos rfl]
      by_cases q : nI m = x
      · rw [if_pos q, if_pos q]
        exact ⟨M1, s1, rfl⟩
      · rw [if_neg q, if_neg q]
        obtain ⟨M2, s2, e2⟩ := ih (i + 1) (m + 1) f M1 (h.sm s1) fr1 (by omega) (by omega)
        exact ⟨M2, s1.tr s2, e2⟩
theorem E_fitsM (hS : RS M0 nc k) (h : CT n xs N gv M nc nm) (h0 : ¬ nm = 0) (fr : FR M0 M) (d : Nat) (x : Int32) : ∃ M1, SM M M1 ∧ mm_E n xs N (d + 12) 279 [.ref 60, .int x] M = some (some (.int (rsL (fitP gv M0 k) nI x 10 0 0)), M1) := by
  have hN := h.nN
  rw [u_X12_fits, if_neg (h.X1 h0).2]
  by_cases hx : -1 ≤ x
  · rw [if_pos hx]
    exact L_fitsM hS d x 10 0 0 N M h fr (by omega) (by omega)
  · rw [if_neg hx, rsL_lo hx 10 0 0 (by omega)]
    exact ⟨M, SM.rf, rfl⟩
theorem Q_fits (h : CT n xs N gv M nc nm) (hS : RS M nc k) (d : Nat) (x : Int32) : QQ n xs N (d + 60) M 153 [.ref 16, .int x] 279 [.ref 60, .int x] := by
  by_cases h0 : nm = 0
  · unfold QQ
    rw [u_X11_fits]
    simp only [u_X12_fits]
    refine ⟨-1, M, M, ?_, FR.rf, ?_, FR.rf⟩
    · rw [if_pos (h.X0 h0).1]
    · rw [if_pos (h.X0 h0).2]
  · obtain ⟨M1, s1, e1⟩ := E_fitsX (n := n) (xs := xs) (N := N) hS h h0 FR.rf (d + 48) x
    obtain ⟨M2, s2, e2⟩ := E_fitsM (n := n) (xs := xs) (N := N) hS (h.sx s1) h0 s1.fr (d + 48) x
    exact ⟨_, M1, M2, e1, s1.fr, e2, s2.fr⟩
end FT
