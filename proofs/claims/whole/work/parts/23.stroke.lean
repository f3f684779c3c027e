/-! strokes: what one gives, by whatever law holds (gv), of the class and of the model -/
theorem I_w {M : mmM} {a k b j : Nat} {v : Int32} : mm_I (mm_wI M a k v) b j = if b = a then (if j = k then v else mm_I M b j) else mm_I M b j := rfl
theorem I_wn {M : mmM} {a k b : Nat} {v : Int32} (h : b ≠ a) : mm_I (mm_wI M a k v) b = mm_I M b := mm_up_ne _ _ _ h
def stk (gv : Int32 → Int32 → Int32 → Int32 → Int32) (w s k y : Int32) : Int32 := i_max 0 (i_min 99 (s + i_max (-9) (i_min 9 (gv w s k y))))
theorem hel_bd (z : Int32) : bd 0 99 (i_max 0 (i_min 99 z)) := by
  unfold bd i_max i_min
  have h0 : (0 : Int32).toInt = 0 := by decide
  have h99 : (99 : Int32).toInt = 99 := by decide
  by_cases h1 : z < 99
  · rw [if_pos h1]
    have g1 := Int32.lt_iff_toInt_lt.mp h1
    by_cases h2 : 0 < z
    · rw [if_pos h2]
      have g2 := Int32.lt_iff_toInt_lt.mp h2
      omega
    · rw [if_neg h2]
      omega
  · rw [if_neg h1, if_pos (by decide)]
    omega
theorem stk_bd {gv : Int32 → Int32 → Int32 → Int32 → Int32} (w s k y : Int32) : bd 0 99 (stk gv w s k y) := hel_bd _
/-- what the class's strokes go by -/
def QX (n : Nat) (xs : Nat → Int32) (M M0 : mmM) : Prop := mm_I M0 33 = mm_I M 33 ∧ (∀ k, k < 4 → mm_I M0 25 k = mm_I M 25 k) ∧ (∀ j, j < 4 → mm_p (mm_Y n xs) M0 26 j = mm_p (mm_Y n xs) M 26 j) ∧ ∀ j b, j < 4 → mm_p (mm_Y n xs) M 26 j = some b → mm_s (mm_Y n xs) M0 b = mm_s (mm_Y n xs) M b ∧ mm_I M0 b = mm_I M b
/-- what the model's strokes go by -/
def QM (M M0 : mmM) : Prop := (∀ a, 62 ≤ a → a ≤ 68 → mm_I M0 a = mm_I M a) ∧ mm_I M0 74 = mm_I M 74 ∧ mm_I M0 60 29 = mm_I M 60 29
/-- the model's law alone has been at work -/
def SL (M M' : mmM) : Prop := M'.1 = M.1 ∧ M'.2.1 = M.2.1 ∧ M'.2.2.1 = M.2.2.1 ∧ M'.2.2.2.2.1 = M.2.2.2.2.1 ∧ M'.2.2.2.2.2 = M.2.2.2.2.2 ∧ ∀ a, a ≠ 69 → a ≠ 70 → mm_I M' a = mm_I M a
def GX (n : Nat) (xs : Nat → Int32) (N : Nat) (gv : Int32 → Int32 → Int32 → Int32 → Int32) (M : mmM) : Prop := ∀ M0, QX n xs M M0 → ∀ (d : Nat) (w s k y : Int32), bd 0 9 w → bd 0 99 s → bd 0 999 k → bd 0 9 y → ∃ M1, mm_E n xs N (d + 9) 116 [.ref 16, .int w, .int s, .int k, .int y] M0 = some (some (.int (stk gv w s k y)), M1) ∧ SX M0 M1
def GM (n : Nat) (xs : Nat → Int32) (N : Nat) (gv : Int32 → Int32 → Int32 → Int32 → Int32) (M : mmM) : Prop := ∀ M0, QM M M0 → ∀ (d : Nat) (w s k y : Int32), bd 0 9 w → bd 0 99 s → bd 0 999 k → bd 0 9 y → ∃ M1, mm_E n xs N (d + 9) 226 [.ref 60, .int w, .int s, .int k, .int y] M0 = some (some (.int (stk gv w s k y)), M1) ∧ SL M0 M1
theorem QX.rf {n : Nat} {xs : Nat → Int32} {M : mmM} : QX n xs M M := ⟨rfl, fun _ _ => rfl, fun _ _ => rfl, fun _ _ _ _ => ⟨rfl, rfl⟩⟩
theorem QM.rf {M : mmM} : QM M M := ⟨fun _ _ _ => rfl, rfl, rfl⟩
theorem QM.tr {M M' M'' : mmM} (h : QM M M') (g : QM M' M'') : QM M M'' := ⟨fun a h1 h2 => (g.1 a h1 h2).trans (h.1 a h1 h2), g.2.1.trans h.2.1, g.2.2.trans h.2.2⟩
theorem SL.rf {M : mmM} : SL M M := ⟨rfl, rfl, rfl, rfl, rfl, fun _ _ _ => rfl⟩
theorem SL.QM {M M' : mmM} (h : SL M M') : QM M M' := ⟨fun a h1 h2 => h.2.2.2.2.2 a (by omega) (by omega), h.2.2.2.2.2 74 (by decide) (by decide), by rw [h.2.2.2.2.2 60 (by decide) (by decide)]⟩
theorem QX.sx {n : Nat} {xs : Nat → Int32} {M M0 M1 : mmM} (h : QX n xs M M0) (g : SX M0 M1) (hp : ∀ j b, j < 4 → mm_p (mm_Y n xs) M 26 j = some b → b ≠ 25 ∧ b ≠ 31) : QX n xs M M1 := by
  obtain ⟨h1, h2, h3, h4⟩ := h
  have hpp : ∀ a k, mm_p (mm_Y n xs) M1 a k = mm_p (mm_Y n xs) M0 a k := by
    intro a k
    unfold mm_p
    rw [g.2.2.2.2.1]
  have hss : ∀ a, mm_s (mm_Y n xs) M1 a = mm_s (mm_Y n xs) M0 a := by
    intro a
    unfold mm_s
    rw [g.1]
  refine ⟨(g.I (by decide) (by decide)).trans h1, fun k hk => (g.2.2.2.2.2.2 k hk).trans (h2 k hk), fun j hj => (hpp _ _).trans (h3 j hj), fun j b hj hb => ?_⟩
  obtain ⟨a1, a2⟩ := h4 j b hj hb
  obtain ⟨b1, b2⟩ := hp j b hj hb
  exact ⟨(hss b).trans a1, (g.I b1 b2).trans a2⟩
/-- how it stands behind j strokes more, from the i-th on -/
def stks (gv : Int32 → Int32 → Int32 → Int32 → Int32) (w k y : Int32) (i j : Nat) (s : Int32) : Int32 := foldI (fun m a => stk gv w a (k + nI m) y) i j s
theorem bd_add {k : Int32} {i : Nat} (hk : bd 0 200 k) (hi : i ≤ 200) : bd 0 999 (k + nI i) := by
  unfold bd at hk ⊢
  have := nI_toInt (n := i) (by omega)
  rw [t_add (by omega) (by omega)]
  omega
section ST
variable {n : Nat} {xs : Nat → Int32} {N : Nat} {gv : Int32 → Int32 → Int32 → Int32 → Int32} {Mb : mmM}
theorem L_often (hG : GX n xs N gv Mb) (hp : ∀ j b, j < 4 → mm_p (mm_Y n xs) Mb 26 j = some b → b ≠ 25 ∧ b ≠ 31) (d : Nat) (w k y : Int32) (hw : bd 0 9 w) (hk : bd 0 200 k) (hy : bd 0 9 y) (c : Nat) (hc : c ≤ 200) : ∀ (j i f : Nat) (s : Int32) (M : mmM), i + j = c → j < f → bd 0 99 s → QX n xs Mb M → ∃ M1, lp_X11_whiskedOften n xs N (d + 9) f 6 [some (.ref 16), some (.int w), none, some (.int k), some (.int y), some (.int (nI c)), some (.int s), some (.int (nI i))] [] M = some (some (.int (stks gv w k y i j s)), M1) ∧ SX M M1 := by
  intro j
  induction j with
  | zero =>
    intro i f s M hij hf hs hq
    obtain ⟨f, rfl⟩ : ∃ g, f = g + 1 := ⟨f - 1, by omega⟩
    refine ⟨M, ?_, SX.rf⟩
    rw [lu_X11_whiskedOften_6, if_pos (nI_le (by omega) (by omega))]
    rfl
  | succ j ih =>
    intro i f s M hij hf hs hq
    obtain ⟨f, rfl⟩ : ∃ g, f = g + 1 := ⟨f - 1, by omega⟩
    obtain ⟨M1, e1, s1⟩ := hG M hq d w s (k + nI i) y hw hs (bd_add hk (by omega)) hy
    obtain ⟨M2, e2, s2⟩ := ih (i + 1) f (stk gv w s (k + nI i) y) M1 (by omega) (by omega) (stk_bd _ _ _ _) (hq.sx s1 hp)
    refine ⟨M2, ?_, s1.tr s2⟩
    rw [lu_X11_whiskedOften_6, if_neg (nI_ge (show i < c by omega) (by omega)), e1, ra_I]
    simp only [Option.bind_some]
    rw [nI_1, e2]
    rfl
theorem E_often (hG : GX n xs N gv Mb) (hp : ∀ j b, j < 4 → mm_p (mm_Y n xs) Mb 26 j = some b → b ≠ 25 ∧ b ≠ 31) (hN : 300 ≤ N) (d : Nat) (w s k y : Int32) (hw : bd 0 9 w) (hs : bd 0 99 s) (hk : bd 0 200 k) (hy : bd 0 9 y) (c : Nat) (hc : c ≤ 200) (M : mmM) (hq : QX n xs Mb M) : ∃ M1, mm_E n xs N (d + 10) 143 [.ref 16, .int w, .int s, .int k, .int y, .int (nI c)] M = some (some (.int (stks gv w k y 0 c s)), M1) ∧ SX M M1 := by
  obtain ⟨M1, e1, s1⟩ := L_often hG hp d w k y hw hk hy c hc c 0 N s M (by omega) (by omega) hs hq
  refine ⟨M1, ?_, s1⟩
  rw [u_X11_whiskedOften]
  exact e1
/-- the model's now changes, and its law's own cells -/
def SN (M M' : mmM) (r : Nat → Int32) : Prop := M'.1 = M.1 ∧ M'.2.1 = M.2.1 ∧ M'.2.2.1 = M.2.2.1 ∧ M'.2.2.2.2.1 = M.2.2.2.2.1 ∧ M'.2.2.2.2.2 = M.2.2.2.2.2 ∧ (∀ a, a ≠ 69 → a ≠ 70 → a ≠ 77 → mm_I M' a = mm_I M a) ∧ mm_I M' 77 = r
theorem SN.QM {M M' : mmM} {r : Nat → Int32} (h : SN M M' r) : QM M M' := ⟨fun a h1 h2 => h.2.2.2.2.2.1 a (by omega) (by omega) (by omega), h.2.2.2.2.2.1 74 (by decide) (by decide) (by decide), by rw [h.2.2.2.2.2.1 60 (by decide) (by decide) (by decide)]⟩
theorem SN.tr {M M' M'' : mmM} {r r' : Nat → Int32} (h : SN M M' r) (g : SN M' M'' r') : SN M M'' r' := ⟨g.1.trans h.1, g.2.1.trans h.2.1, g.2.2.1.trans h.2.2.1, g.2.2.2.1.trans h.2.2.2.1, g.2.2.2.2.1.trans h.2.2.2.2.1, fun a h1 h2 h3 => (g.2.2.2.2.2.1 a h1 h2 h3).trans (h.2.2.2.2.2.1 a h1 h2 h3), g.2.2.2.2.2.2⟩
/-- now, behind one stroke of cook c -/
def nw1 (gv : Int32 → Int32 → Int32 → Int32 → Int32) (c : Nat) (r : Nat → Int32) : Nat → Int32 := fun k => if k = 4 + c then r (4 + c) + 1 else if k = 9 then r 9 + 1 else if k = 8 then stk gv (r c) (r 8) (r 9) (r 12) else r k
theorem E_strokeNow (hG : GM n xs N gv Mb) (d : Nat) (c : Nat) (hc : c < 4) (M : mmM) (hq : QM Mb M) (h1 : bd 0 9 (mm_I M 77 c)) (h2 : bd 0 99 (mm_I M 77 8)) (h3 : bd 0 999 (mm_I M 77 9)) (h4 : bd 0 9 (mm_I M 77 12)) : ∃ M1, mm_E n xs N (d + 10) 227 [.ref 60, .int (nI c)] M = some (none, M1) ∧ SN M M1 (nw1 gv c (mm_I M 77)) := by
  obtain ⟨M1, e1, s1⟩ := hG M hq d _ _ _ _ h1 h2 h3 h4
  have e0 : (0 : Int32) + nI c = nI c := by rw [show (0 : Int32) = nI 0 from rfl, nI_add, Nat.zero_add]
  have e4 : (4 : Int32) + nI c = nI (4 + c) := by rw [show (4 : Int32) = nI 4 from rfl, nI_add]
  refine ⟨mm_wI (mm_wI (mm_wI M1 77 8 (stk gv (mm_I M 77 c) (mm_I M 77 8) (mm_I M 77 9) (mm_I M 77 12))) 77 9 (mm_I M1 77 9 + 1)) 77 (4 + c) (mm_I (mm_wI (mm_wI M1 77 8 (stk gv (mm_I M 77 c) (mm_I M 77 8) (mm_I M 77 9) (mm_I M 77 12))) 77 9 (mm_I M1 77 9 + 1)) 77 (4 + c) + 1), ?_, ?_⟩
  · rw [u_X12_strokeNow, e0, e4]
    simp only [mm_inb_nI (show c < 198 by omega) (by omega), mm_inb_nI (show 4 + c < 198 by omega) (by omega), cond_true, nI_clamp (show c < 2 ^ 31 by omega), nI_clamp (show 4 + c < 2 ^ 31 by omega), e1, ra_I, Option.bind_some, mm_ble (show 16 ≤ 77 by omega), Bool.and_self]
  · refine ⟨s1.1, s1.2.1, s1.2.2.1, s1.2.2.2.1, s1.2.2.2.2.1, fun a a1 a2 a3 => ?_, ?_⟩
    · rw [I_wn a3, I_wn a3, I_wn a3]
      exact s1.2.2.2.2.2 a a1 a2
    · have hr : mm_I M1 77 = mm_I M 77 := s1.2.2.2.2.2 77 (by decide) (by decide)
      funext k
      simp only [I_w, if_true, nw1, hr]
      by_cases k1 : k = 4 + c
      · subst k1
        simp only [if_true, show ¬ 4 + c = 9 by omega, show ¬ 4 + c = 8 by omega, if_false]
      · simp only [if_neg k1]
/-- now, behind j strokes of cook c -/
def nwj (gv : Int32 → Int32 → Int32 → Int32 → Int32) (c : Nat) : Nat → (Nat → Int32) → Nat → Int32
  | 0, r => r
  | j + 1, r => nwj gv c j (nw1 gv c r)
theorem nw1_c {c : Nat} (hc : c < 4) (r : Nat → Int32) : nw1 gv c r c = r c := by
  unfold nw1
  rw [if_neg (by omega), if_neg (by omega), if_neg (by omega)]
theorem nw1_12 {c : Nat} (hc : c < 4) (r : Nat → Int32) : nw1 gv c r 12 = r 12 := by
  unfold nw1
  rw [if_neg (by omega), if_neg (by omega), if_neg (by omega)]
theorem nw1_8 {c : Nat} (hc : c < 4) (r : Nat → Int32) : nw1 gv c r 8 = stk gv (r c) (r 8) (r 9) (r 12) := by
  unfold nw1
  rw [if_neg (by omega), if_neg (by omega), if_pos rfl]
theorem nw1_9 {c : Nat} (hc : c < 4) (r : Nat → Int32) : nw1 gv c r 9 = r 9 + 1 := by
  unfold nw1
  rw [if_neg (by omega), if_pos rfl]
theorem L_strokesNow (hG : GM n xs N gv Mb) (d : Nat) (c : Nat) (hc : c < 4) (t : Nat) (ht : t ≤ 300) : ∀ (j i f : Nat) (M : mmM), i + j = t → j < f → QM Mb M → bd 0 9 (mm_I M 77 c) → bd 0 99 (mm_I M 77 8) → bd 0 (999 - j) (mm_I M 77 9) → bd 0 9 (mm_I M 77 12) → ∃ M1, lp_X12_strokesNow n xs N (d + 10) f 2 [some (.ref 60), some (.int (nI c)), some (.int (nI t)), some (.int (nI i))] [] M = some (none, M1) ∧ SN M M1 (nwj gv c j (mm_I M 77)) := by
  intro j
  induction j with
  | zero =>
    intro i f M hij hf hq h1 h2 h3 h4
    obtain ⟨f, rfl⟩ : ∃ g, f = g + 1 := ⟨f - 1, by omega⟩
    refine ⟨M, ?_, rfl, rfl, rfl, rfl, rfl, fun _ _ _ _ => rfl, rfl⟩
    rw [lu_X12_strokesNow_2, if_pos (nI_le (by omega) (by omega))]
  | succ j ih =>
    intro i f M hij hf hq h1 h2 h3 h4
    obtain ⟨f, rfl⟩ : ∃ g, f = g + 1 := ⟨f - 1, by omega⟩
    obtain ⟨M1, e1, s1⟩ := E_strokeNow hG d c hc M hq h1 h2 (by unfold bd at h3 ⊢; omega) h4
    have hr : mm_I M1 77 = nw1 gv c (mm_I M 77) := s1.2.2.2.2.2.2
    obtain ⟨M2, e2, s2⟩ := ih (i + 1) f M1 (by omega) (by omega) (hq.tr s1.QM) (by rw [hr, nw1_c hc]; exact h1) (by rw [hr, nw1_8 hc]; exact stk_bd _ _ _ _) (by
      rw [hr, nw1_9 hc]
      unfold bd at h3 ⊢
      have e : (1 : Int32).toInt = 1 := by decide
      rw [t_add (by omega) (by omega)]
      omega) (by rw [hr, nw1_12 hc]; exact h4)
    rw [hr] at s2
    refine ⟨M2, ?_, s1.tr s2⟩
    rw [lu_X12_strokesNow_2, if_neg (nI_ge (show i < t by omega) (by omega)), e1, ra_V]
    simp only [Option.bind_some]
    rw [nI_1, e2]
theorem E_strokesNow (hG : GM n xs N gv Mb) (hN : 400 ≤ N) (d : Nat) (c : Nat) (hc : c < 4) (t : Nat) (ht : t ≤ 300) (M : mmM) (hq : QM Mb M) (h1 : bd 0 9 (mm_I M 77 c)) (h2 : bd 0 99 (mm_I M 77 8)) (h3 : bd 0 200 (mm_I M 77 9)) (h4 : bd 0 9 (mm_I M 77 12)) : ∃ M1, mm_E n xs N (d + 11) 228 [.ref 60, .int (nI c), .int (nI t)] M = some (none, M1) ∧ SN M M1 (nwj gv c t (mm_I M 77)) := by
  obtain ⟨M1, e1, s1⟩ := L_strokesNow hG d c hc t ht t 0 N M (by omega) (by omega) hq h1 h2 (by unfold bd at h3 ⊢; omega) h4
  refine ⟨M1, ?_, s1⟩
  rw [u_X12_strokesNow]
  exact e1
/-- how it stands then -/
theorem nwj_8 {c : Nat} (hc : c < 4) : ∀ (j i : Nat) (r : Nat → Int32) (k : Int32), r 9 = k + nI i → nwj gv c j r 8 = stks gv (r c) k (r 12) i j (r 8)
  | 0, _, _, _, _ => rfl
  | j + 1, i, r, k, h => by
    have ih := nwj_8 hc j (i + 1) (nw1 gv c r) k (by rw [nw1_9 hc, h, Int32.add_assoc, nI_1])
    rw [nw1_c hc, nw1_12 hc, nw1_8 hc] at ih
    show nwj gv c j (nw1 gv c r) 8 = _
    rw [ih, h]
    rfl
end ST
