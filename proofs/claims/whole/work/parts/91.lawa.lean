/-- the class's reader of laws alone has been at work -/
def LXf (M M' : mmM) : Prop := M'.1 = M.1 ∧ M'.2.1 = M.2.1 ∧ M'.2.2.1 = M.2.2.1 ∧ mm_J M' = mm_J M ∧ M'.2.2.2.2.2 = M.2.2.2.2.2 ∧ (∀ b, b ≠ 17 → b ≠ 23 → b ≠ 24 → mm_I M' b = mm_I M b) ∧ (∀ q, q ≠ 2 → mm_I M' 17 q = mm_I M 17 q) ∧ ∀ q, q ≠ 2 → mm_I M' 23 q = mm_I M 23 q
/-- what it has written -/
def WX (M : mmM) (w : List Int32) : Prop := mm_I M 23 2 = nI w.length ∧ RC (mm_I M 24) 0 w
theorem RC_cg {g g' : Nat → Int32} : ∀ {l : List Int32} {p : Nat}, (∀ i, p ≤ i → i < p + l.length → g' i = g i) → RC g p l → RC g' p l
  | [], _, _, _ => trivial
  | t :: r, p, h, hr => ⟨(h p (Nat.le_refl _) (by rw [List.length_cons]; omega)).trans hr.1, RC_cg (fun i h1 h2 => h i (by omega) (by rw [List.length_cons]; omega)) hr.2⟩
theorem RC_snoc {g : Nat → Int32} {t : Int32} : ∀ {l : List Int32} {p : Nat}, RC g p l → g (p + l.length) = t → RC g p (l ++ [t])
  | [], _, _, h => ⟨h, trivial⟩
  | a :: r, p, hr, h => ⟨hr.1, RC_snoc hr.2 (by rw [List.length_cons] at h; rw [← h]; congr 1; omega)⟩
section LA
variable {n : Nat} {xs : Nat → Int32} {N : Nat} {M M' M1 M2 : mmM} {T : Nat → Int32} {s a : Nat} {w : List Int32}
theorem LXf.rf : LXf M M := ⟨rfl, rfl, rfl, rfl, rfl, fun _ _ _ _ => rfl, fun _ _ => rfl, fun _ _ => rfl⟩
theorem LXf.tr (h : LXf M M1) (g : LXf M1 M2) : LXf M M2 := ⟨g.1.trans h.1, g.2.1.trans h.2.1, g.2.2.1.trans h.2.2.1, g.2.2.2.1.trans h.2.2.2.1, g.2.2.2.2.1.trans h.2.2.2.2.1, fun c h1 h2 h3 => (g.2.2.2.2.2.1 c h1 h2 h3).trans (h.2.2.2.2.2.1 c h1 h2 h3), fun c hc => (g.2.2.2.2.2.2.1 c hc).trans (h.2.2.2.2.2.2.1 c hc), fun c hc => (g.2.2.2.2.2.2.2 c hc).trans (h.2.2.2.2.2.2.2 c hc)⟩
theorem XT.lx (h : XT M M1 a) : LXf M M1 := ⟨h.1, h.2.1, h.2.2.1, h.2.2.2.1, h.2.2.2.2.1, fun c h1 _ _ => h.I h1, fun q hq => h.2.2.2.2.2.2.1 q hq, fun q _ => by rw [h.I (by decide)]⟩
theorem WX.xt (h : WX M w) (g : XT M M1 a) : WX M1 w := ⟨by rw [g.I (by decide)]; exact h.1, by rw [g.I (by decide)]; exact h.2⟩
theorem XTp.lx (h : XTp M T s) (g : LXf M M1) : XTp M1 T s := ⟨h.1, (g.2.2.2.2.2.2.1 1 (by decide)).trans h.2.1, by rw [g.2.2.2.2.2.1 18 (by decide) (by decide) (by decide)]; exact h.2.2⟩
theorem E_writeL (d : Nat) (t : Int32) (hw : WX M w) (hl : w.length < 240) : ∃ M1, mm_E n xs N (d + 1) 18 [.ref 23, .int t] M = some (none, M1) ∧ LXf M M1 ∧ mm_I M1 17 = mm_I M 17 ∧ WX M1 (w ++ [t]) := by
  obtain ⟨h1, h2⟩ := hw
  rw [u_X3_write, h1, if_neg (nI_pos (by omega)), if_neg (show ¬ Int32.ofNat 240 ≤ nI w.length from fun q => by have := (nI_leI (a := 240) (by omega) (by omega)).mp q; omega), mm_inb_nI hl (by omega), nI_clamp (by omega), nI_1]
  refine ⟨_, rfl, ⟨rfl, rfl, rfl, rfl, rfl, fun b b1 b2 b3 => by rw [I_wn b2, I_wn b3], fun q _ => by rw [I_wn (by decide), I_wn (by decide)], fun q hq => by rw [I_s, if_neg hq, I_wn (by decide)]⟩, by rw [I_wn (by decide), I_wn (by decide)], ?_, ?_⟩
  · rw [I_s, if_pos rfl, List.length_append, List.length_cons, List.length_nil]
  · rw [I_wn (by decide)]
    exact RC_snoc (RC_cg (fun i _ hi => by rw [I_s, if_neg (by omega)]) h2) (by rw [I_s, if_pos (by omega)])
theorem E_stepX (d : Nat) (ha : mm_I M 17 2 = nI a) : mm_E n xs N (d + 1) 77 [.ref 17] M = some (none, mm_wI M 17 2 (nI (a + 1))) := by
  rw [u_X9_step, ha, nI_1]
end LA
