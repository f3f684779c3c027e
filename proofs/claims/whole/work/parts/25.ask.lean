/-! what is only asked: what may be another behind it, and all that it goes by -/
def scr (a : Nat) : Bool := a == 25 || a == 31 || a == 53 || a == 54 || a == 55 || a == 58 || a == 59 || a == 60 || a == 69 || a == 70 || a == 80
def FR (M M' : mmM) : Prop := M'.1 = M.1 ∧ M'.2.1 = M.2.1 ∧ M'.2.2.1 = M.2.2.1 ∧ M'.2.2.2.2.2 = M.2.2.2.2.2 ∧ (∀ a, scr a = false → mm_I M' a = mm_I M a) ∧ (∀ k, k < 4 → mm_I M' 25 k = mm_I M 25 k) ∧ (∀ k, k ≠ 0 → (k < 35 ∨ 38 < k) → mm_I M' 60 k = mm_I M 60 k) ∧ (∀ a, a = 54 ∨ a = 55 → mm_I M' a 0 = mm_I M a 0) ∧ M'.2.2.2.2.1 = M.2.2.2.2.1
theorem scr_lo {a : Nat} (h1 : 62 ≤ a) (h2 : a ≤ 68) : scr a = false := by
  have : ∀ a, a < 69 → 62 ≤ a → scr a = false := by decide
  exact this a (by omega) h1
theorem scr_hi {a : Nat} (h : 81 ≤ a) : scr a = false := by
  unfold scr
  simp only [Bool.or_eq_false_iff, beq_eq_false_iff_ne, ne_eq]
  refine ⟨⟨⟨⟨⟨⟨⟨⟨⟨⟨?_, ?_⟩, ?_⟩, ?_⟩, ?_⟩, ?_⟩, ?_⟩, ?_⟩, ?_⟩, ?_⟩, ?_⟩ <;> omega
theorem scr_ne {a b : Nat} (h : scr a = false) (hb : scr b = true) : a ≠ b := by
  intro e; subst e; rw [h] at hb; cases hb
theorem FR.rf {M : mmM} : FR M M := ⟨rfl, rfl, rfl, rfl, fun _ _ => rfl, fun _ _ => rfl, fun _ _ _ => rfl, fun _ _ => rfl, rfl⟩
theorem FR.tr {M M' M'' : mmM} (h : FR M M') (g : FR M' M'') : FR M M'' := ⟨g.1.trans h.1, g.2.1.trans h.2.1, g.2.2.1.trans h.2.2.1, g.2.2.2.1.trans h.2.2.2.1, fun a h1 => (g.2.2.2.2.1 a h1).trans (h.2.2.2.2.1 a h1), fun k hk => (g.2.2.2.2.2.1 k hk).trans (h.2.2.2.2.2.1 k hk), fun k h0 hk => (g.2.2.2.2.2.2.1 k h0 hk).trans (h.2.2.2.2.2.2.1 k h0 hk), fun a ha => (g.2.2.2.2.2.2.2.1 a ha).trans (h.2.2.2.2.2.2.2.1 a ha), g.2.2.2.2.2.2.2.2.trans h.2.2.2.2.2.2.2.2⟩
theorem FR.I {M M' : mmM} (h : FR M M') {a : Nat} (ha : scr a = false) : mm_I M' a = mm_I M a := h.2.2.2.2.1 a ha
theorem SX.fr {M M' : mmM} (h : SX M M') : FR M M' := ⟨h.1, h.2.1, h.2.2.1, h.2.2.2.2.1, fun _ ha => h.I (scr_ne ha rfl) (scr_ne ha rfl), h.2.2.2.2.2.2, fun k _ _ => by rw [h.I (by decide) (by decide)], fun a ha => by rw [h.I (by omega) (by omega)], h.2.2.2.1⟩
theorem SM.fr {M M' : mmM} (h : SM M M') : FR M M' := ⟨h.1, h.2.1, h.2.2.1, h.2.2.2.2.1, fun _ ha => h.I (scr_ne ha rfl) (scr_ne ha rfl) (scr_ne ha rfl), fun k _ => by rw [h.I (by decide) (by decide) (by decide)], fun k _ _ => by rw [h.I (by decide) (by decide) (by decide)], fun a ha => by rw [h.I (by omega) (by omega) (by omega)], h.2.2.2.1⟩
theorem SL.SM {M M' : mmM} (h : SL M M') : SM M M' := ⟨h.1, h.2.1, h.2.2.1, h.2.2.2.1, h.2.2.2.2.1, fun a h1 h2 _ => h.2.2.2.2.2 a h1 h2⟩
def CT (n : Nat) (xs : Nat → Int32) (N : Nat) (gv : Int32 → Int32 → Int32 → Int32 → Int32) (M : mmM) (nc nm : Nat) : Prop := RT M nc nm ∧ RB M nc nm ∧ GX n xs N gv M ∧ GM n xs N gv M ∧ (∀ j b, j < 4 → mm_p (mm_Y n xs) M 26 j = some b → scr b = false) ∧ 2000 ≤ N
/-- how many strokes are left to cook c -/
def lfN (M : mmM) (c : Nat) : Nat := ((mm_I M 33 (4 + c * 2 + 1)).toInt - (mm_I M 36 c).toInt).toNat
/-- how it stands behind t strokes of cook c -/
def SB (gv : Int32 → Int32 → Int32 → Int32 → Int32) (M : mmM) (c t : Nat) : Int32 := stks gv (mm_I M 37 c) (mm_I M 35 1) (mm_I M 35 4) 0 t (mm_I M 35 0)
theorem foldI_succ {α : Type} (g : Nat → α → α) : ∀ (j i : Nat) (a : α), foldI g i (j + 1) a = g (i + j) (foldI g i j a)
  | 0, _, _ => rfl
  | j + 1, i, a => by
    show foldI g (i + 1) (j + 1) (g i a) = _
    rw [foldI_succ g j (i + 1) (g i a), show i + 1 + j = i + (j + 1) by omega]
    rfl
/-- the first of j from i on for which p holds -/
def fst1 (p : Nat → Bool) : Nat → Nat → Int32
  | _, 0 => -1
  | i, j + 1 => if p i = true then nI i else fst1 p (i + 1) j
theorem nI_ne1 {i : Nat} (h : i < 2 ^ 31) : ¬ nI i = -1 := by
  intro q
  have := nI_pos (n := i) h
  rw [q] at this
  exact this (by decide)
section AK
variable {n : Nat} {xs : Nat → Int32} {N : Nat} {gv : Int32 → Int32 → Int32 → Int32 → Int32} {M M' : mmM} {nc nm : Nat}
theorem CT.mv (h : CT n xs N gv M nc nm) (f : FR M M') : CT n xs N gv M' nc nm := by
  obtain ⟨h1, h2, h3, h4, h5, h6⟩ := h
  obtain ⟨f1, f2, f3, f4, f5, f6, f7, -, -⟩ := f
  have hpp : ∀ a k, mm_p (mm_Y n xs) M' a k = mm_p (mm_Y n xs) M a k := by intro a k; unfold mm_p; rw [f4]
  have hss : ∀ a, mm_s (mm_Y n xs) M' a = mm_s (mm_Y n xs) M a := by intro a; unfold mm_s; rw [f1]
  refine ⟨h1.mv (by rw [f5 16 (by decide)]) (f5 34 (by decide)) (f7 25 (by decide) (by decide)) (f7 26 (by decide) (by decide)) (f5 33 (by decide)) (f5 74 (by decide)) (f5 75 (by decide)) (f5 76 (by decide)), h2.mv (f5 35 (by decide)) (f5 36 (by decide)) (f5 37 (by decide)) (f5 77 (by decide)) (f5 33 (by decide)), ?_, ?_, fun j b hj hb => h5 j b hj ((hpp _ _).symm.trans hb), h6⟩
  · intro M0 q
    refine h3 M0 ⟨q.1.trans (f5 33 (by decide)), fun k hk => (q.2.1 k hk).trans (f6 k hk), fun j hj => (q.2.2.1 j hj).trans (hpp _ _), fun j b hj hb => ?_⟩
    obtain ⟨a1, a2⟩ := q.2.2.2 j b hj ((hpp _ _).trans hb)
    exact ⟨a1.trans (hss b), a2.trans (f5 b (h5 j b hj hb))⟩
  · intro M0 q
    exact h4 M0 ⟨fun a g1 g2 => (q.1 a g1 g2).trans (f5 a (scr_lo g1 g2)), q.2.1.trans (f5 74 (by decide)), q.2.2.trans (f7 29 (by decide) (by decide))⟩
theorem CT.sx (h : CT n xs N gv M nc nm) (f : SX M M') : CT n xs N gv M' nc nm := h.mv f.fr
theorem CT.sm (h : CT n xs N gv M nc nm) (f : SM M M') : CT n xs N gv M' nc nm := h.mv f.fr
theorem CT.hp (h : CT n xs N gv M nc nm) : ∀ j b, j < 4 → mm_p (mm_Y n xs) M 26 j = some b → b ≠ 25 ∧ b ≠ 31 := fun j b hj hb => ⟨scr_ne (h.2.2.2.2.1 j b hj hb) rfl, scr_ne (h.2.2.2.2.1 j b hj hb) rfl⟩
theorem CT.nN (h : CT n xs N gv M nc nm) : 2000 ≤ N := h.2.2.2.2.2
theorem CT.nc4 (h : CT n xs N gv M nc nm) : nc ≤ 4 := h.1.1
theorem CT.nm7 (h : CT n xs N gv M nc nm) : nm ≤ 7 := h.1.2.1
theorem CT.st (h : CT n xs N gv M nc nm) : bd 0 99 (mm_I M 35 0) := h.2.1.2.2.2.2.2.2.2.2.2.2.1
theorem CT.sk (h : CT n xs N gv M nc nm) : bd 0 160 (mm_I M 35 1) := h.2.1.2.2.2.2.2.2.2.2.2.2.2.1
theorem CT.yk (h : CT n xs N gv M nc nm) : bd 0 9 (mm_I M 35 4) := h.2.1.2.2.2.2.2.2.2.2.2.2.2.2.2.2.1
theorem CT.wr (h : CT n xs N gv M nc nm) {c : Nat} (hc : c < nc) : bd 1 9 (mm_I M 37 c) := h.2.1.2.2.2.2.2.2.2.2.2.2.2.2.2.2.2.2.2.2.1 c hc
theorem CT.ti (h : CT n xs N gv M nc nm) {c : Nat} (hc : c < nc) : 0 ≤ (mm_I M 36 c).toInt ∧ (mm_I M 36 c).toInt ≤ (mm_I M 33 (4 + c * 2 + 1)).toInt := h.2.1.2.2.2.2.2.2.2.2.2.2.2.2.2.2.2.2.2.2.2 c hc
theorem CT.en (h : CT n xs N gv M nc nm) {c : Nat} (hc : c < nc) : bd 1 40 (mm_I M 33 (4 + c * 2 + 1)) := h.1.2.2.2.2.2.2.2.2.2.2.2.2.2.1 c hc
theorem CT.cm (h : CT n xs N gv M nc nm) {c : Nat} (hc : c < nc) : mm_I M 77 c = mm_I M 37 c ∧ mm_I M 77 (4 + c) = mm_I M 36 c := h.2.1.2.2.2.2.2.2.2.2.2.1 c hc
theorem CT.b8 (h : CT n xs N gv M nc nm) : mm_I M 77 8 = mm_I M 35 0 := h.2.1.1
theorem CT.b9 (h : CT n xs N gv M nc nm) : mm_I M 77 9 = mm_I M 35 1 := h.2.1.2.1
theorem CT.b10 (h : CT n xs N gv M nc nm) : mm_I M 77 10 = mm_I M 35 2 := h.2.1.2.2.1
theorem CT.b11 (h : CT n xs N gv M nc nm) : mm_I M 77 11 = mm_I M 35 3 := h.2.1.2.2.2.1
theorem CT.b12 (h : CT n xs N gv M nc nm) : mm_I M 77 12 = mm_I M 35 4 := h.2.1.2.2.2.2.1
theorem CT.c75 (h : CT n xs N gv M nc nm) {c w : Nat} (hc : c < nc) (hw : w < 2) : mm_I M 75 (2 * c + w) = mm_I M 33 (4 + c * 2 + w) := h.1.2.2.2.2.2.2.2.2.2.1 c w hc hw
theorem CT.lf (h : CT n xs N gv M nc nm) {c : Nat} (hc : c < nc) : mm_I M 33 (4 + c * 2 + 1) - mm_I M 36 c = nI (lfN M c) ∧ lfN M c ≤ 40 := by
  have h1 := h.ti hc
  have h2 := h.en hc
  unfold bd at h2
  have hl : lfN M c ≤ 40 := by unfold lfN; omega
  refine ⟨Int32.toInt_inj.mp ?_, hl⟩
  rw [t_sub (by omega) (by omega), nI_toInt (by omega)]
  unfold lfN
  omega
theorem CT.w9 (h : CT n xs N gv M nc nm) {c : Nat} (hc : c < nc) : bd 0 9 (mm_I M 37 c) := by
  have := h.wr hc
  unfold bd at this ⊢
  omega
theorem CT.sk2 (h : CT n xs N gv M nc nm) : bd 0 200 (mm_I M 35 1) := by
  have := h.sk
  unfold bd at this ⊢
  omega
theorem SB_bd (h : CT n xs N gv M nc nm) (c t : Nat) : bd 0 99 (SB gv M c t) := by
  unfold SB stks
  cases t with
  | zero => exact h.st
  | succ t => rw [foldI_succ]; exact stk_bd _ _ _ _
theorem SB_succ (c t : Nat) : SB gv M c (t + 1) = stk gv (mm_I M 37 c) (SB gv M c t) (mm_I M 35 1 + nI t) (mm_I M 35 4) := by
  unfold SB stks
  rw [foldI_succ, Nat.zero_add]
theorem SB_fr (f : FR M M') : SB gv M' = SB gv M := by
  funext c t
  unfold SB
  rw [f.I (show scr 37 = false by decide), f.I (show scr 35 = false by decide)]
theorem lf_fr (f : FR M M') : lfN M' = lfN M := by
  funext c
  unfold lfN
  rw [f.I (show scr 33 = false by decide), f.I (show scr 36 = false by decide)]
theorem E_left (h : CT n xs N gv M nc nm) (d : Nat) {c : Nat} (hc : c < nc) : mm_E n xs N (d + 4) 113 [.ref 16, .int (nI c)] M = some (some (.int (nI (lfN M c))), M) := by
  have h4 := h.nc4
  rw [u_X11_strokesLeft]
  (rw [show mm_E n xs N (d + 3) 94 [.ref 32, .int 1, .int (nI c), .int 1] M = _ from E_cookI d M c 1 (by omega) (by omega), ra_I]; simp only [Option.bind_some])
  (rw [E_tiredOf (d + 2) M c (by omega), ra_I]; simp only [Option.bind_some])
  rw [(h.lf hc).1]
theorem E_leftM (h : CT n xs N gv M nc nm) (d : Nat) {c : Nat} (hc : c < nc) : mm_E n xs N (d + 1) 224 [.ref 60, .int (nI c)] M = some (some (.int (nI (lfN M c))), M) := by
  have h4 := h.nc4
  rw [E_leftOf d M c (by omega), h.c75 hc (by omega), (h.cm hc).2, (h.lf hc).1]
theorem E_behM (h : CT n xs N gv M nc nm) (d : Nat) {c : Nat} (hc : c < nc) (t : Nat) (ht : t ≤ 300) : ∃ M1, mm_E n xs N (d + 12) 263 [.ref 60, .int (nI c), .int (nI t)] M = some (some (.int (SB gv M c (min t (lfN M c)))), M1) ∧ SM M M1 := by
  have h4 := h.nc4
  have hN := h.nN
  have hl := h.lf hc
  have := E_standsB (n := n) (xs := xs) (N := N) h.2.2.2.1 (by omega) d c (by omega) t (lfN M c) ht (by omega) M QM.rf (by rw [(h.cm hc).1]; exact h.w9 hc) (by rw [h.b8]; exact h.st) (by rw [h.b9]; exact h.sk2) (by rw [h.b12]; exact h.yk) (by rw [h.c75 hc (by omega), (h.cm hc).2, hl.1])
  rw [(h.cm hc).1, h.b8, h.b9, h.b12] at this
  exact this
theorem E_wh (h : CT n xs N gv M nc nm) (d : Nat) {w s k y : Int32} (h1 : bd 0 9 w) (h2 : bd 0 99 s) (h3 : bd 0 999 k) (h4 : bd 0 9 y) : ∃ M1, mm_E n xs N (d + 9) 116 [.ref 16, .int w, .int s, .int k, .int y] M = some (some (.int (stk gv w s k y)), M1) ∧ SX M M1 := h.2.2.1 M QX.rf d w s k y h1 h2 h3 h4
/-- one stroke more of cook c behind t of them -/
theorem E_wh1 (h : CT n xs N gv M nc nm) (d : Nat) {c t : Nat} (hc : c < nc) (ht : t ≤ 200) : ∃ M1, mm_E n xs N (d + 9) 116 [.ref 16, .int (mm_I M 37 c), .int (SB gv M c t), .int (mm_I M 35 1 + nI t), .int (mm_I M 35 4)] M = some (some (.int (SB gv M c (t + 1))), M1) ∧ SX M M1 := by
  obtain ⟨M1, e, s⟩ := E_wh h d (h.w9 hc) (SB_bd h c t) (bd_add h.sk2 ht) h.yk
  exact ⟨M1, by rw [e, SB_succ], s⟩
theorem E_behX (h : CT n xs N gv M nc nm) (d : Nat) {c t : Nat} (hc : c < nc) (ht : t ≤ 200) : ∃ M1, mm_E n xs N (d + 10) 143 [.ref 16, .int (mm_I M 37 c), .int (mm_I M 35 0), .int (mm_I M 35 1), .int (mm_I M 35 4), .int (nI t)] M = some (some (.int (SB gv M c t)), M1) ∧ SX M M1 := by
  have hN := h.nN
  exact E_often h.2.2.1 h.hp (by omega) d _ _ _ _ (h.w9 hc) h.st h.sk2 h.yk t ht M QX.rf
/-! behind -/
def vBehind (gv : Int32 → Int32 → Int32 → Int32 → Int32) (M : mmM) (nc : Nat) (c x : Int32) : Int32 := if ck nc c = true ∧ wi 0 x 40 = true then SB gv M c.toNatClampNeg (min x.toNatClampNeg (lfN M c.toNatClampNeg)) else -1
theorem wi_t {k : Nat} {x : Int32} (hk : k < 2 ^ 31) (h : wi 0 x (nI k) = true) : ∃ j : Nat, j ≤ k ∧ x = nI j := by
  unfold wi at h
  simp only [Bool.and_eq_true, decide_eq_true_eq] at h
  obtain ⟨j, hj, rfl⟩ := nI_of (x := x) (i_nlt.mpr h.1)
  exact ⟨j, (nI_leI hj hk).mp h.2, rfl⟩
theorem A_behindX (h : CT n xs N gv M nc nm) (d : Nat) (c x : Int32) : ∃ M1, mm_E n xs N (d + 11) 142 [.ref 16, .int c, .int x] M = some (some (.int (vBehind gv M nc c x)), M1) ∧ SX M M1 := by
  have h4 := h.nc4
  rw [u_X11_behind]
  (rw [E_hasCook (d + 7) h.1, ra_I]; simp only [Option.bind_some])
  unfold vBehind
  cases hk : ck nc c with
  | false => exact ⟨M, rfl, SX.rf⟩
  | true =>
    obtain ⟨j, hj, rfl⟩ := ck_t (by omega) hk
    rw [if_neg (show ¬ mb true = 0 by decide)]
    (rw [E_isWithin (d + 9) M 0 x 40, ra_I]; simp only [Option.bind_some])
    cases hw : wi 0 x 40 with
    | false => exact ⟨M, rfl, SX.rf⟩
    | true =>
      obtain ⟨t, ht, rfl⟩ := wi_t (k := 40) (by decide) hw
      have hl := (h.lf hj).2
      rw [if_neg (show ¬ mb true = 0 by decide)]
      (rw [E_left h (d + 6) hj, ra_I]; simp only [Option.bind_some])
      (rw [E_min (d + 9) M _ _, ra_I]; simp only [Option.bind_some])
      (rw [E_wristOf (d + 9) M j (by omega), ra_I]; simp only [Option.bind_some])
      rw [i_min_nI (by omega) (by omega)]
      obtain ⟨M1, e1, s1⟩ := E_behX h d hj (t := min t (lfN M j)) (by omega)
      (rw [e1, ra_I]; simp only [Option.bind_some])
      refine ⟨M1, ?_, s1⟩
      simp only [and_self, if_true, nI_clamp (show j < 2 ^ 31 by omega), nI_clamp (show t < 2 ^ 31 by omega)]
theorem A_behindM (h : CT n xs N gv M nc nm) (d : Nat) (c x : Int32) : ∃ M1, mm_E n xs N (d + 13) 264 [.ref 60, .int c, .int x] M = some (some (.int (vBehind gv M nc c x)), M1) ∧ SM M M1 := by
  have h4 := h.nc4
  rw [u_X12_behind]
  (rw [E_isCook (d + 10) h.1, ra_I]; simp only [Option.bind_some])
  unfold vBehind
  cases hk : ck nc c with
  | false => exact ⟨M, rfl, SM.rf⟩
  | true =>
    obtain ⟨j, hj, rfl⟩ := ck_t (by omega) hk
    rw [if_neg (show ¬ mb true = 0 by decide)]
    (rw [E_in (d + 11) M x 0 40, ra_I]; simp only [Option.bind_some])
    cases hw : wi 0 x 40 with
    | false => exact ⟨M, rfl, SM.rf⟩
    | true =>
      obtain ⟨t, ht, rfl⟩ := wi_t (k := 40) (by decide) hw
      rw [if_neg (show ¬ mb true = 0 by decide)]
      obtain ⟨M1, e1, s1⟩ := E_behM h d hj t (by omega)
      (rw [e1, ra_I]; simp only [Option.bind_some])
      refine ⟨M1, ?_, s1⟩
      simp only [and_self, if_true, nI_clamp (show j < 2 ^ 31 by omega), nI_clamp (show t < 2 ^ 31 by omega)]
/-! soonest -/
def sn (gv : Int32 → Int32 → Int32 → Int32 → Int32) (M : mmM) (c : Nat) (v : Int32) (i j : Nat) : Int32 := fst1 (fun t => decide (v ≤ SB gv M c t)) i j
theorem sn_fr (f : FR M M') : sn gv M' = sn gv M := by
  funext c v i j
  unfold sn
  rw [SB_fr f]
theorem L_soonX (d : Nat) (v : Int32) (c : Nat) (l : Nat) (hl : l ≤ 40) : ∀ (j i f : Nat) (M : mmM), CT n xs N gv M nc nm → c < nc → i + j = l + 1 → j < f → ∃ M1, lp_X11_soonestOf n xs N (d + 9) f 28 [some (.ref 16), none, some (.int v), some (.int (mm_I M 37 c)), some (.int (nI l)), some (.int (SB gv M c i)), some (.int (nI i))] [] M = some (some (.int (sn gv M c v i j)), M1) ∧ SX M M1 := by
  intro j
  induction j with
  | zero =>
    intro i f M h hc hij hf
    obtain ⟨f, rfl⟩ : ∃ g, f = g + 1 := ⟨f - 1, by omega⟩
    rw [lu_X11_soonestOf_28, if_pos (nI_lt (by omega) (by omega))]
    exact ⟨M, rfl, SX.rf⟩
  | succ j ih =>
    intro i f M h hc hij hf
    obtain ⟨f, rfl⟩ : ∃ g, f = g + 1 := ⟨f - 1, by omega⟩
    rw [lu_X11_soonestOf_28, if_neg (show ¬ nI l < nI i from fun q => by have := (nI_ltI (by omega) (by omega)).mp q; omega)]
    unfold sn fst1
    by_cases hv : v ≤ SB gv M c i
    · rw [if_neg (i_nlt.mpr hv), if_pos (decide_eq_true hv)]
      exact ⟨M, rfl, SX.rf⟩
    · rw [if_pos (i_nle.mp hv), if_neg (by rw [decide_eq_false hv]; decide)]
      obtain ⟨M1, e1, s1⟩ := E_wh1 h d hc (t := i) (by omega)
      (rw [e1, ra_I]; simp only [Option.bind_some])
      obtain ⟨M2, e2, s2⟩ := ih (i + 1) f M1 (h.sx s1) hc (by omega) (by omega)
      rw [sn_fr s1.fr, SB_fr s1.fr, s1.I (by decide) (by decide)] at e2
      rw [nI_1, e2]
      exact ⟨M2, rfl, s1.tr s2⟩
theorem E_soonX (h : CT n xs N gv M nc nm) (d : Nat) (v : Int32) {c : Nat} (hc : c < nc) : ∃ M1, mm_E n xs N (d + 10) 145 [.ref 16, .int (nI c), .int v] M = some (some (.int (sn gv M c v 0 (lfN M c + 1))), M1) ∧ SX M M1 := by
  have h4 := h.nc4
  have hN := h.nN
  have hl := (h.lf hc).2
  rw [u_X11_soonestOf]
  (rw [E_wristOf (d + 8) M c (by omega), ra_I]; simp only [Option.bind_some])
  (rw [E_left h (d + 5) hc, ra_I]; simp only [Option.bind_some])
  exact L_soonX d v c (lfN M c) hl (lfN M c + 1) 0 N M h hc (by omega) (by omega)
theorem L_soonM (d : Nat) (v : Int32) (c : Nat) : ∀ (j i f : Nat) (M : mmM), CT n xs N gv M nc nm → c < nc → i + j = lfN M c + 1 → j < f → ∃ M1, lp_X12_soonestOf n xs N (d + 12) f 2 [some (.ref 60), some (.int (nI c)), some (.int v), some (.int (nI i))] [] M = some (some (.int (sn gv M c v i j)), M1) ∧ SM M M1 := by
  intro j
  induction j with
  | zero =>
    intro i f M h hc hij hf
    have hl := (h.lf hc).2
    obtain ⟨f, rfl⟩ : ∃ g, f = g + 1 := ⟨f - 1, by omega⟩
    rw [lu_X12_soonestOf_2]
    (rw [E_leftM h (d + 11) hc, ra_I]; simp only [Option.bind_some])
    rw [if_pos (nI_lt (by omega) (by omega))]
    exact ⟨M, rfl, SM.rf⟩
  | succ j ih =>
    intro i f M h hc hij hf
    have hl := (h.lf hc).2
    obtain ⟨f, rfl⟩ : ∃ g, f = g + 1 := ⟨f - 1, by omega⟩
    rw [lu_X12_soonestOf_2]
    (rw [E_leftM h (d + 11) hc, ra_I]; simp only [Option.bind_some])
    rw [if_neg (show ¬ nI (lfN M c) < nI i from fun q => by have := (nI_ltI (by omega) (by omega)).mp q; omega)]
    obtain ⟨M1, e1, s1⟩ := E_behM h d hc i (by omega)
    rw [Nat.min_eq_left (show i ≤ lfN M c by omega)] at e1
    (rw [e1, ra_I]; simp only [Option.bind_some])
    unfold sn fst1
    by_cases hv : v ≤ SB gv M c i
    · rw [if_neg (i_nlt.mpr hv), if_pos (decide_eq_true hv)]
      exact ⟨M1, rfl, s1⟩
    · rw [if_pos (i_nle.mp hv), if_neg (by rw [decide_eq_false hv]; decide)]
      obtain ⟨M2, e2, s2⟩ := ih (i + 1) f M1 (h.sm s1) hc (by rw [lf_fr s1.fr]; omega) (by omega)
      rw [sn_fr s1.fr] at e2
      rw [nI_1, e2]
      exact ⟨M2, rfl, s1.tr s2⟩
theorem E_soonM (h : CT n xs N gv M nc nm) (d : Nat) (v : Int32) {c : Nat} (hc : c < nc) : ∃ M1, mm_E n xs N (d + 13) 265 [.ref 60, .int (nI c), .int v] M = some (some (.int (sn gv M c v 0 (lfN M c + 1))), M1) ∧ SM M M1 := by
  have hN := h.nN
  have hl := (h.lf hc).2
  rw [u_X12_soonestOf]
  exact L_soonM d v c (lfN M c + 1) 0 N M h hc (by omega) (by omega)
def vSoonest (gv : Int32 → Int32 → Int32 → Int32 → Int32) (M : mmM) (nc : Nat) (c v : Int32) : Int32 := if ck nc c = true ∧ wi 0 v 99 = true then sn gv M c.toNatClampNeg v 0 (lfN M c.toNatClampNeg + 1) else -1
theorem A_soonestX (h : CT n xs N gv M nc nm) (d : Nat) (c v : Int32) : ∃ M1, mm_E n xs N (d + 11) 144 [.ref 16, .int c, .int v] M = some (some (.int (vSoonest gv M nc c v)), M1) ∧ SX M M1 := by
  have h4 := h.nc4
  rw [u_X11_soonest]
  (rw [E_hasCook (d + 7) h.1, ra_I]; simp only [Option.bind_some])
  unfold vSoonest
  cases hk : ck nc c with
  | false => exact ⟨M, rfl, SX.rf⟩
  | true =>
    obtain ⟨j, hj, rfl⟩ := ck_t (by omega) hk
    rw [if_neg (show ¬ mb true = 0 by decide)]
    (rw [E_isStand (d + 8) M v, ra_I]; simp only [Option.bind_some])
    cases hw : wi 0 v 99 with
    | false => exact ⟨M, rfl, SX.rf⟩
    | true =>
      rw [if_neg (show ¬ mb true = 0 by decide)]
      obtain ⟨M1, e1, s1⟩ := E_soonX h d v hj
      (rw [e1, ra_I]; simp only [Option.bind_some])
      refine ⟨M1, ?_, s1⟩
      simp only [and_self, if_true, nI_clamp (show j < 2 ^ 31 by omega)]
theorem A_soonestM (h : CT n xs N gv M nc nm) (d : Nat) (c v : Int32) : ∃ M1, mm_E n xs N (d + 14) 266 [.ref 60, .int c, .int v] M = some (some (.int (vSoonest gv M nc c v)), M1) ∧ SM M M1 := by
  have h4 := h.nc4
  rw [u_X12_soonest]
  (rw [E_isCook (d + 11) h.1, ra_I]; simp only [Option.bind_some])
  unfold vSoonest
  cases hk : ck nc c with
  | false => exact ⟨M, rfl, SM.rf⟩
  | true =>
    obtain ⟨j, hj, rfl⟩ := ck_t (by omega) hk
    rw [if_neg (show ¬ mb true = 0 by decide)]
    (rw [E_in (d + 12) M v 0 99, ra_I]; simp only [Option.bind_some])
    cases hw : wi 0 v 99 with
    | false => exact ⟨M, rfl, SM.rf⟩
    | true =>
      rw [if_neg (show ¬ mb true = 0 by decide)]
      obtain ⟨M1, e1, s1⟩ := E_soonM h d v hj
      (rw [e1, ra_I]; simp only [Option.bind_some])
      refine ⟨M1, ?_, s1⟩
      simp only [and_self, if_true, nI_clamp (show j < 2 ^ 31 by omega)]
end AK
