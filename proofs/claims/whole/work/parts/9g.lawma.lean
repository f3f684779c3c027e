/-! the reference's reader of laws -/
def LMf (t : Nat) (M M' : mmM) : Prop := M'.1 = M.1 ∧ M'.2.1 = M.2.1 ∧ M'.2.2.1 = M.2.2.1 ∧ mm_J M' = mm_J M ∧ M'.2.2.2.2.2 = M.2.2.2.2.2 ∧ (∀ b, b ≠ 60 → b ≠ 62 → b ≠ 63 → b ≠ 64 → mm_I M' b = mm_I M b) ∧ (∀ q, q ≠ 3 → q ≠ 4 → q ≠ 5 → mm_I M' 60 q = mm_I M 60 q) ∧ (∀ k, (k < 520 * t ∨ 520 * t + 520 ≤ k) → mm_I M' 62 k = mm_I M 62 k ∧ mm_I M' 63 k = mm_I M 63 k) ∧ ∀ q, q ≠ t → mm_I M' 64 q = mm_I M 64 q
/-- what it has put of text t -/
def WM (M : mmM) (t : Nat) (w : List Int32) : Prop := mm_I M 64 t = nI w.length ∧ RTk (mm_I M 62) (mm_I M 63) (520 * t) w
/-- it stands at a, no fault, depth D, w put -/
def MS (T : Nat → Int32) (s t D : Nat) (M : mmM) (a : Nat) (w : List Int32) : Prop := MTp M T s ∧ mm_I M 60 3 = nI a ∧ a ≤ s ∧ mm_I M 60 4 = -1 ∧ mm_I M 60 5 = nI D ∧ mm_I M 60 14 = nI t ∧ t < 5 ∧ WM M t w ∧ w.length ≤ a
/-- there is a fault at p, k signs put -/
def MFl (t : Nat) (M : mmM) (p k : Nat) : Prop := mm_I M 60 4 = nI p ∧ mm_I M 60 14 = nI t ∧ t < 5 ∧ mm_I M 64 t = nI k
/-- what one reading gives -/
def SM1 (T : Nat → Int32) (s t D : Nat) (M : mmM) (a : Nat) (w : List Int32) (e : Option mmR) (r : RL) : Prop := (∀ p, r = .inl p → ∃ M1 k, e = some (none, M1) ∧ LMf t M M1 ∧ MFl t M1 p k ∧ k + a ≤ w.length + p ∧ p ≤ s) ∧ ∀ a' w', r = .inr (a', w') → ∃ M1, e = some (none, M1) ∧ LMf t M M1 ∧ MS T s t D M1 a' w'
def SPM (T : Nat → Int32) (s t D : Nat) (e : mmM → Option mmR) (P : Nat → List Int32 → RL) : Prop := ∀ M a w, MS T s t D M a w → SM1 T s t D M a w (e M) (P a w)
theorem RTk_cg {g g' h h' : Nat → Int32} : ∀ {l : List Int32} {p : Nat}, (∀ i, p ≤ i → i < p + l.length → g' i = g i ∧ h' i = h i) → RTk g h p l → RTk g' h' p l
  | [], _, _, _ => trivial
  | t :: r, p, hh, hr => ⟨by rw [(hh p (Nat.le_refl _) (by rw [List.length_cons]; omega)).1, (hh p (Nat.le_refl _) (by rw [List.length_cons]; omega)).2]; exact hr.1, RTk_cg (fun i h1 h2 => hh i (by omega) (by rw [List.length_cons]; omega)) hr.2⟩
theorem RTk_snoc {g h : Nat → Int32} {t : Int32} : ∀ {l : List Int32} {p : Nat}, RTk g h p l → TKn (g (p + l.length)) (h (p + l.length)) t → RTk g h p (l ++ [t])
  | [], _, _, hh => ⟨hh, trivial⟩
  | a :: r, p, hr, hh => ⟨hr.1, RTk_snoc hr.2 (by rw [List.length_cons, show p + (r.length + 1) = p + 1 + r.length by omega] at hh; exact hh)⟩
section MA
variable {n : Nat} {xs : Nat → Int32} {N : Nat} {M M' M1 M2 : mmM} {T : Nat → Int32} {s t D a b p k : Nat} {w : List Int32}
theorem LMf.rf : LMf t M M := ⟨rfl, rfl, rfl, rfl, rfl, fun _ _ _ _ _ => rfl, fun _ _ _ _ => rfl, fun _ _ => ⟨rfl, rfl⟩, fun _ _ => rfl⟩
theorem LMf.tr (h : LMf t M M1) (g : LMf t M1 M2) : LMf t M M2 := by
  obtain ⟨h1, h2, h3, h4, h5, h6, h7, h8, h9⟩ := h
  obtain ⟨g1, g2, g3, g4, g5, g6, g7, g8, g9⟩ := g
  exact ⟨g1.trans h1, g2.trans h2, g3.trans h3, g4.trans h4, g5.trans h5, fun b b1 b2 b3 b4 => (g6 b b1 b2 b3 b4).trans (h6 b b1 b2 b3 b4), fun q q1 q2 q3 => (g7 q q1 q2 q3).trans (h7 q q1 q2 q3), fun k hk => ⟨(g8 k hk).1.trans (h8 k hk).1, (g8 k hk).2.trans (h8 k hk).2⟩, fun q hq => (g9 q hq).trans (h9 q hq)⟩
theorem MW.lm (h : MW M M1) : LMf t M M1 := ⟨h.1, h.2.1, h.2.2.1, h.2.2.2.1, h.2.2.2.2.1, fun b hb _ _ _ => h.I hb, fun q h3 h4 _ => h.2.2.2.2.2.2 q h3 h4, fun k _ => ⟨by rw [h.I (by decide)], by rw [h.I (by decide)]⟩, fun q _ => by rw [h.I (by decide)]⟩
theorem LMf.w5 {x : Int32} : LMf t M (mm_wI M 60 5 x) := ⟨rfl, rfl, rfl, rfl, rfl, fun _ h _ _ _ => I_wn h, fun q _ _ h => by rw [I_s, if_neg h], fun k _ => ⟨by rw [I_wn (by decide)], by rw [I_wn (by decide)]⟩, fun q _ => by rw [I_wn (by decide)]⟩
theorem LMf.w3 {x : Int32} : LMf t M (mm_wI M 60 3 x) := MW.w3.lm
theorem LMf.w4 {x : Int32} : LMf t M (mm_wI M 60 4 x) := MW.w4.lm
theorem MT.lm (h : MT M M1 a) : LMf t M M1 := h.mw.lm
theorem MTp.lm (h : MTp M T s) (g : LMf t M M1) : MTp M1 T s := ⟨h.1, by rw [g.2.2.2.2.2.2.1 2 (by decide) (by decide) (by decide)]; exact h.2.1, by rw [g.2.2.2.2.2.1 61 (by decide) (by decide) (by decide) (by decide)]; exact h.2.2⟩
theorem WM.cg (h : WM M t w) (h2 : mm_I M1 62 = mm_I M 62) (h3 : mm_I M1 63 = mm_I M 63) (h4 : mm_I M1 64 = mm_I M 64) : WM M1 t w := ⟨by rw [h4]; exact h.1, by rw [h2, h3]; exact h.2⟩
theorem MS.mt (h : MS T s t D M a w) (g : MT M M1 b) (hb : b ≤ s) (hw : w.length ≤ b) : MS T s t D M1 b w := by
  obtain ⟨h1, h2, h3, h4, h5, h6, h7, h8, h9⟩ := h
  exact ⟨h1.mt g, g.pl, hb, by rw [g.q (by decide)]; exact h4, by rw [g.q (by decide)]; exact h5, by rw [g.q (by decide)]; exact h6, h7, h8.cg (g.I (by decide)) (g.I (by decide)) (g.I (by decide)), hw⟩
theorem MS.d5 (h : MS T s t D M a w) (E : Nat) : MS T s t E (mm_wI M 60 5 (nI E)) a w := by
  obtain ⟨h1, h2, h3, h4, h5, h6, h7, h8, h9⟩ := h
  exact ⟨h1.lm LMf.w5 (t := t), by rw [I_s, if_neg (by decide)]; exact h2, h3, by rw [I_s, if_neg (by decide)]; exact h4, by rw [I_s, if_pos rfl], by rw [I_s, if_neg (by decide)]; exact h6, h7, h8.cg (I_wn (by decide)) (I_wn (by decide)) (I_wn (by decide)), h9⟩
theorem MS.bad (h : MS T s t D M a w) : MFl t (mm_wI M 60 4 (nI a)) a w.length := ⟨by rw [I_s, if_pos rfl], by rw [I_s, if_neg (by decide)]; exact h.2.2.2.2.2.1, h.2.2.2.2.2.2.1, by rw [I_wn (by decide)]; exact h.2.2.2.2.2.2.2.1.1⟩
theorem MFl.ne (h : MFl t M p k) (hp : p ≤ 240) : ¬ mm_I M 60 4 = -1 := by
  rw [h.1]
  exact fun q => nI_pos (n := p) (by omega) (by rw [q]; decide)
theorem E_putR (d : Nat) (o v : Int32) (h14 : mm_I M 60 14 = nI t) (ht : t < 5) (h64 : mm_I M 64 t = nI k) (hk : k < 520) : ∃ M1, mm_E n xs N (d + 1) 190 [.ref 60, .int o, .int v] M = some (none, M1) ∧ LMf t M M1 ∧ mm_I M1 60 = mm_I M 60 ∧ mm_I M1 61 = mm_I M 61 ∧ mm_I M1 64 t = nI (k + 1) ∧ mm_I M1 62 (520 * t + k) = o ∧ mm_I M1 63 (520 * t + k) = v ∧ (∀ i, i ≠ 520 * t + k → mm_I M1 62 i = mm_I M 62 i ∧ mm_I M1 63 i = mm_I M 63 i) := by
  have m520 : (520 : Int32) * nI t + nI k = nI (520 * t + k) := by
    rw [show (520 : Int32) = nI 520 from by decide, ← nI_add, show nI 520 * nI t = nI (520 * t) from (Int32.ofNat_mul 520 t).symm]
  rw [u_X12_put, h14, nI_clamp (by omega), h64, m520, mm_inb_nI (n := 5) ht (by omega), mm_inb_nI (n := 2600) (by omega) (by omega), nI_clamp (by omega), nI_1]
  refine ⟨_, rfl, ⟨rfl, rfl, rfl, rfl, rfl, fun b b1 b2 b3 b4 => by rw [I_wn b4, I_wn b3, I_wn b2], fun q _ _ _ => by rw [I_wn (by decide), I_wn (by decide), I_wn (by decide)], fun i hi => ⟨by rw [I_wn (by decide), I_wn (by decide), I_s, if_neg (by omega)], by rw [I_wn (by decide), I_s, if_neg (by omega), I_wn (by decide)]⟩, fun q hq => by rw [I_s, if_neg hq, I_wn (by decide), I_wn (by decide)]⟩, ?_, ?_, ?_, ?_, ?_, ?_⟩
  · rw [I_wn (by decide), I_wn (by decide), I_wn (by decide)]
  · rw [I_wn (by decide), I_wn (by decide), I_wn (by decide)]
  · rw [I_s, if_pos rfl]
  · rw [I_wn (by decide), I_wn (by decide), I_s, if_pos rfl]
  · rw [I_wn (by decide), I_s, if_pos rfl]
  · intro i hi
    exact ⟨by rw [I_wn (by decide), I_wn (by decide), I_s, if_neg hi], by rw [I_wn (by decide), I_s, if_neg hi, I_wn (by decide)]⟩
theorem E_putM (d : Nat) {o v sg : Int32} (h : MS T s t D M a w) (hw : w.length + 1 ≤ a) (hk : TKn o v sg) : ∃ M1, mm_E n xs N (d + 1) 190 [.ref 60, .int o, .int v] M = some (none, M1) ∧ LMf t M M1 ∧ MS T s t D M1 a (w ++ [sg]) := by
  obtain ⟨h1, h2, h3, h4, h5, h6, h7, h8, h9⟩ := h
  have := h1.1
  obtain ⟨M1, e1, x1, y1, y2, y3, y4, y5, y6⟩ := E_putR (n := n) (xs := xs) (N := N) d o v h6 h7 h8.1 (by omega)
  refine ⟨M1, e1, x1, h1.lm x1, by rw [y1]; exact h2, h3, by rw [y1]; exact h4, by rw [y1]; exact h5, by rw [y1]; exact h6, h7, ⟨?_, ?_⟩, ?_⟩
  · rw [y3, List.length_append, List.length_cons, List.length_nil]
  · exact RTk_snoc (RTk_cg (fun i _ hi => y6 i (by omega)) h8.2) (by rw [y4, y5]; exact hk)
  · rw [List.length_append, List.length_cons, List.length_nil]; omega
theorem E_putF (d : Nat) (o v : Int32) (h : MFl t M p k) (hk : k < 520) : ∃ M1, mm_E n xs N (d + 1) 190 [.ref 60, .int o, .int v] M = some (none, M1) ∧ LMf t M M1 ∧ MFl t M1 p (k + 1) := by
  obtain ⟨h1, h2, h3, h4⟩ := h
  obtain ⟨M1, e1, x1, y1, y2, y3, y4, y5, y6⟩ := E_putR (n := n) (xs := xs) (N := N) d o v h2 h3 h4 hk
  exact ⟨M1, e1, x1, by rw [y1]; exact h1, by rw [y1]; exact h2, h3, y3⟩
theorem E_lookS (hN : 1000 ≤ N) (d : Nat) (h : MS T s t D M a w) : ∃ M1, mm_E n xs N (d + 2) 187 [.ref 60] M = some (some (.int (cu T s (sk T s a))), M1) ∧ LMf t M M1 ∧ MS T s t D M1 (sk T s a) w := by
  obtain ⟨M1, e1, x1⟩ := E_lookM (n := n) (xs := xs) (N := N) hN d h.1 h.2.1 h.2.2.1
  have k1 := sk_ge T s a
  have := h.2.2.2.2.2.2.2.2
  exact ⟨M1, e1, x1.lm, h.mt x1 (sk_le h.2.2.1) (by omega)⟩
theorem MS.st (h : MS T s t D M a w) (ha : a < s) : MS T s t D (mm_wI M 60 3 (nI (a + 1))) (a + 1) w := h.mt MT.w (by omega) (by have := h.2.2.2.2.2.2.2.2; omega)
theorem E_badS (d : Nat) (h : MS T s t D M a w) : mm_E n xs N (d + 1) 188 [.ref 60] M = some (none, mm_wI M 60 4 (nI a)) := E_bad d h.2.2.2.1 h.2.1
theorem SM1.pre {M0 : mmM} {a0 : Nat} {w0 : List Int32} {e : Option mmR} {r : RL} (h : SM1 T s t D M a w e r) (g : LMf t M0 M) (hb : a0 + w.length ≤ a + w0.length) : SM1 T s t D M0 a0 w0 e r := by
  obtain ⟨u1, u2⟩ := h
  refine ⟨fun p q => ?_, fun a' w' q => ?_⟩
  · obtain ⟨M5, k, m1, m2, m3, m4, m5⟩ := u1 p q
    exact ⟨M5, k, m1, g.tr m2, m3, by omega, m5⟩
  · obtain ⟨M5, m1, m2, m3⟩ := u2 a' w' q
    exact ⟨M5, m1, g.tr m2, m3⟩
theorem SM1.l {M1 : mmM} (g : LMf t M M1) (h : MFl t M1 p k) (hk : k + a ≤ w.length + p) (hp : p ≤ s) : SM1 T s t D M a w (some (none, M1)) (.inl p) := ⟨(fun p q => by cases q; exact ⟨M1, k, rfl, g, h, hk, hp⟩), (fun a' w' q => by cases q)⟩
theorem SM1.r {M1 : mmM} {a' : Nat} {w' : List Int32} (g : LMf t M M1) (h : MS T s t D M1 a' w') : SM1 T s t D M a w (some (none, M1)) (.inr (a', w')) := ⟨(fun p q => by cases q), (fun a' w' q => by cases q; exact ⟨M1, rfl, g, h⟩)⟩
end MA
