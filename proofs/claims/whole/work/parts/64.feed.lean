/-! fed, and cut -/
def wdB (a b c d e : Int32) (k : Nat) : Int32 := if k < 4 then a else if k < 8 then b else if k < 12 then c else if k < 16 then d else e
def qB (a b c d e : Int32) (k : Nat) : Int32 := by1 (wdB a b c d e k) (k % 4)
section FE
variable {n : Nat} {xs : Nat → Int32} {N : Nat} {gv gv' : Int32 → Int32 → Int32 → Int32 → Int32} {M M' M1 M2 : mmM} {nc nm k p z h : Nat} {bs rs : Nat → Nat → Int32} {Dk : Nat → Nat} {im : Bool}
theorem sh_in {j : Nat} (hj : j < 4) : ¬ shI j < 0 := by
  rcases (show j = 0 ∨ j = 1 ∨ j = 2 ∨ j = 3 by omega) with rfl | rfl | rfl | rfl <;> decide
theorem sh_s {j : Nat} (hj : j < 4) : shI j + (-8) = shI (j + 1) := by
  rcases (show j = 0 ∨ j = 1 ∨ j = 2 ∨ j = 3 by omega) with rfl | rfl | rfl | rfl <;> decide
theorem L_sgn (d : Nat) (w : Int32) : ∀ (j i f a : Nat), i + j = 4 → j < f → lp_X9_signsIn n xs N d f 5 [some (.int w), some (.int (nI a)), some (.int (shI i))] [] M = some (some (.int (nI (a + ctB (by1 w) i j))), M) := by
  intro j
  induction j with
  | zero =>
    intro i f a hij hf
    obtain ⟨f, rfl⟩ : ∃ g, f = g + 1 := ⟨f - 1, by omega⟩
    have : i = 4 := by omega
    subst this
    rw [lu_X9_signsIn_5, if_pos (by decide)]
    rfl
  | succ j ih =>
    intro i f a hij hf
    obtain ⟨f, rfl⟩ : ∃ g, f = g + 1 := ⟨f - 1, by omega⟩
    rw [lu_X9_signsIn_5, if_neg (sh_in (by omega)), by_u w (by omega), sh_s (by omega), ctB_s]
    by_cases q : by1 w i = 0
    · rw [if_pos q, Int32.add_zero, ih (i + 1) f a (by omega) (by omega)]
      unfold nz
      rw [if_pos q, Nat.zero_add]
    · rw [if_neg q, nI_1, ih (i + 1) f (a + 1) (by omega) (by omega)]
      unfold nz
      rw [if_neg q, Nat.add_assoc]
theorem E_sgn (hN : 100 ≤ N) (d : Nat) (M : mmM) (w : Int32) : mm_E n xs N (d + 1) 71 [.int w] M = some (some (.int (nI (ctB (by1 w) 0 4))), M) := by
  rw [u_X9_signsIn]
  have := L_sgn (n := n) (xs := xs) (N := N) (M := M) d w 4 0 N 0 (by omega) (by omega)
  rw [Nat.zero_add, nI_0] at this
  exact this
/-- only the tape's cells are others -/
def TX (M M' : mmM) : Prop := M'.1 = M.1 ∧ M'.2.1 = M.2.1 ∧ M'.2.2.1 = M.2.2.1 ∧ M'.2.2.2.2.2 = M.2.2.2.2.2 ∧ (∀ a, a ≠ 17 → a ≠ 18 → mm_I M' a = mm_I M a) ∧ mm_J M' = mm_J M
def TM (M M' : mmM) : Prop := M'.1 = M.1 ∧ M'.2.1 = M.2.1 ∧ M'.2.2.1 = M.2.2.1 ∧ M'.2.2.2.2.2 = M.2.2.2.2.2 ∧ (∀ a, a ≠ 60 → a ≠ 61 → mm_I M' a = mm_I M a) ∧ (∀ q, q ≠ 2 → mm_I M' 60 q = mm_I M 60 q) ∧ mm_J M' = mm_J M
theorem TX.rf : TX M M := ⟨rfl, rfl, rfl, rfl, fun _ _ _ => rfl, rfl⟩
theorem TM.rf : TM M M := ⟨rfl, rfl, rfl, rfl, fun _ _ _ => rfl, fun _ _ => rfl, rfl⟩
theorem TX.tr (h : TX M M1) (g : TX M1 M2) : TX M M2 := ⟨g.1.trans h.1, g.2.1.trans h.2.1, g.2.2.1.trans h.2.2.1, g.2.2.2.1.trans h.2.2.2.1, fun a a1 a2 => (g.2.2.2.2.1 a a1 a2).trans (h.2.2.2.2.1 a a1 a2), g.2.2.2.2.2.trans h.2.2.2.2.2⟩
theorem TM.tr (h : TM M M1) (g : TM M1 M2) : TM M M2 := ⟨g.1.trans h.1, g.2.1.trans h.2.1, g.2.2.1.trans h.2.2.1, g.2.2.2.1.trans h.2.2.2.1, fun a a1 a2 => (g.2.2.2.2.1 a a1 a2).trans (h.2.2.2.2.1 a a1 a2), fun q hq => (g.2.2.2.2.2.1 q hq).trans (h.2.2.2.2.2.1 q hq), g.2.2.2.2.2.2.trans h.2.2.2.2.2.2⟩
theorem L_put (d : Nat) (w : Int32) : ∀ (j i f s : Nat) (M : mmM), i + j = 4 → j < f → mm_I M 17 1 = nI s → s + ctB (by1 w) i j ≤ 240 → ∃ M1, lp_X9_put n xs N d f 3 [some (.ref 17), some (.int w), some (.int (shI i)), none] [] M = some (none, M1) ∧ TX M M1 ∧ mm_I M1 17 1 = nI (tpB (by1 w) i j (s, mm_I M 18)).1 ∧ mm_I M1 18 = (tpB (by1 w) i j (s, mm_I M 18)).2 := by
  intro j
  induction j with
  | zero =>
    intro i f s M hij hf hs h240
    obtain ⟨f, rfl⟩ : ∃ g, f = g + 1 := ⟨f - 1, by omega⟩
    have : i = 4 := by omega
    subst this
    refine ⟨M, ?_, TX.rf, hs, rfl⟩
    rw [lu_X9_put_3, if_pos (by decide)]
  | succ j ih =>
    intro i f s M hij hf hs h240
    obtain ⟨f, rfl⟩ : ∃ g, f = g + 1 := ⟨f - 1, by omega⟩
    rw [ctB_s] at h240
    by_cases q : by1 w i = 0
    · obtain ⟨M1, e1, x1, x2, x3⟩ := ih (i + 1) f s M (by omega) (by omega) hs (by omega)
      refine ⟨M1, ?_, x1, ?_, ?_⟩
      · rw [lu_X9_put_3, if_neg (sh_in (by omega)), by_u w (by omega), sh_s (by omega), if_pos q]
        exact e1
      · rw [tpB_s, if_pos q]; exact x2
      · rw [tpB_s, if_pos q]; exact x3
    · have hnz : nz (by1 w i) = 1 := by unfold nz; rw [if_neg q]
      obtain ⟨M1, e1, x1, x2, x3⟩ := ih (i + 1) f (s + 1) (mm_wI (mm_wI M 18 s (by1 w i)) 17 1 (nI (s + 1))) (by omega) (by omega) (by rw [I_s, if_pos rfl]) (by omega)
      have e18 : mm_I (mm_wI (mm_wI M 18 s (by1 w i)) 17 1 (nI (s + 1))) 18 = fun x => if x = s then by1 w i else mm_I M 18 x := by
        funext x
        rw [I_wn (by decide), I_s]
      rw [e18] at x2 x3
      refine ⟨M1, ?_, ⟨x1.1, x1.2.1, x1.2.2.1, x1.2.2.2.1, fun a a1 a2 => by rw [x1.2.2.2.2.1 a a1 a2, I_wn a1, I_wn a2], x1.2.2.2.2.2⟩, ?_, ?_⟩
      · rw [lu_X9_put_3, if_neg (sh_in (by omega)), by_u w (by omega), sh_s (by omega), if_neg q, hs, if_neg (show ¬ Int32.ofNat 240 ≤ nI s from nI_ge (b := 240) (by omega) (by omega)), mm_inb_nI (show s < 240 by omega) (by omega), mm_ble (show 16 ≤ 18 by omega), Bool.and_self, cond_true, nI_clamp (by omega), nI_1]
        exact e1
      · rw [tpB_s, if_neg q]; exact x2
      · rw [tpB_s, if_neg q]; exact x3
theorem E_put (hN : 100 ≤ N) (d : Nat) (w : Int32) {s : Nat} {M : mmM} (hs : mm_I M 17 1 = nI s) (h : s + ctB (by1 w) 0 4 ≤ 240) : ∃ M1, mm_E n xs N (d + 1) 72 [.ref 17, .int w] M = some (none, M1) ∧ TX M M1 ∧ mm_I M1 17 1 = nI (tpB (by1 w) 0 4 (s, mm_I M 18)).1 ∧ mm_I M1 18 = (tpB (by1 w) 0 4 (s, mm_I M 18)).2 := by
  obtain ⟨M1, e1, x1⟩ := L_put (n := n) (xs := xs) (N := N) d w 4 0 N s M (by omega) (by omega) hs h
  refine ⟨M1, ?_, x1⟩
  rw [u_X9_put]
  exact e1
theorem q_w (a b c d e : Int32) (g i : Nat) (hi : i < 4) (hg : g = 0 ∨ g = 4 ∨ g = 8 ∨ g = 12 ∨ g = 16) : qB a b c d e (g + i) = by1 (wdB a b c d e g) i := by
  unfold qB
  rw [show (g + i) % 4 = i by omega]
  congr 1
  unfold wdB
  rcases hg with rfl | rfl | rfl | rfl | rfl
  · rw [if_pos (by omega), if_pos (by omega)]
  · rw [if_neg (by omega), if_pos (by omega)]; rfl
  · rw [if_neg (by omega), if_neg (by omega), if_pos (by omega)]; rfl
  · rw [if_neg (by omega), if_neg (by omega), if_neg (by omega), if_pos (by omega)]; rfl
  · rw [if_neg (by omega), if_neg (by omega), if_neg (by omega), if_neg (by omega)]; rfl
theorem ct_q (a b c d e : Int32) (g : Nat) (hg : g = 0 ∨ g = 4 ∨ g = 8 ∨ g = 12 ∨ g = 16) : ctB (qB a b c d e) g 4 = ctB (by1 (wdB a b c d e g)) 0 4 := ctB_cg (q := by1 (wdB a b c d e g)) g 4 0 (fun m _ h2 => q_w a b c d e g m (by omega) hg)
theorem tp_q (a b c d e : Int32) (g : Nat) (hg : g = 0 ∨ g = 4 ∨ g = 8 ∨ g = 12 ∨ g = 16) (s : Nat × (Nat → Int32)) : tpB (qB a b c d e) g 4 s = tpB (by1 (wdB a b c d e g)) 0 4 s := tpB_cg (q := by1 (wdB a b c d e g)) g 4 0 s (fun m _ h2 => q_w a b c d e g m (by omega) hg)
theorem ct_20 (a b c d e : Int32) : ctB (qB a b c d e) 0 20 = ctB (by1 a) 0 4 + ctB (by1 b) 0 4 + ctB (by1 c) 0 4 + ctB (by1 d) 0 4 + ctB (by1 e) 0 4 := by
  rw [ctB_add _ 16 0 4, ctB_add _ 12 0 4, ctB_add _ 8 0 4, ctB_add _ 4 0 4, ct_q a b c d e 0 (by omega), ct_q a b c d e (0 + 4) (by omega), ct_q a b c d e (0 + 8) (by omega), ct_q a b c d e (0 + 12) (by omega), ct_q a b c d e (0 + 16) (by omega)]
  rfl
theorem tp_20 (a b c d e : Int32) (s : Nat × (Nat → Int32)) : tpB (qB a b c d e) 0 20 s = tpB (by1 e) 0 4 (tpB (by1 d) 0 4 (tpB (by1 c) 0 4 (tpB (by1 b) 0 4 (tpB (by1 a) 0 4 s)))) := by
  rw [tpB_add _ 16 0 4, tpB_add _ 12 0 4, tpB_add _ 8 0 4, tpB_add _ 4 0 4, tp_q a b c d e 0 (by omega), tp_q a b c d e (0 + 4) (by omega), tp_q a b c d e (0 + 8) (by omega), tp_q a b c d e (0 + 12) (by omega), tp_q a b c d e (0 + 16) (by omega)]
  rfl
theorem E_feedX (hN : 100 ≤ N) (dd : Nat) (a b c d e : Int32) {s : Nat} (hs : mm_I M 17 1 = nI s) (h240 : s ≤ 240) : ∃ M1, mm_E n xs N (dd + 2) 99 [.ref 16, .int a, .int b, .int c, .int d, .int e] M = some (some (.int (if s + ctB (qB a b c d e) 0 20 ≤ 240 then nI (s + ctB (qB a b c d e) 0 20) else -1)), M1) ∧ TX M M1 ∧ mm_I M1 17 1 = nI (if s + ctB (qB a b c d e) 0 20 ≤ 240 then s + ctB (qB a b c d e) 0 20 else s) ∧ mm_I M1 18 = (if s + ctB (qB a b c d e) 0 20 ≤ 240 then (tpB (qB a b c d e) 0 20 (s, mm_I M 18)).2 else mm_I M 18) := by
  have c20 := ct_20 a b c d e
  have la := ctB_le (by1 a) 4 0
  have lb := ctB_le (by1 b) 4 0
  have lc := ctB_le (by1 c) 4 0
  have ld := ctB_le (by1 d) 4 0
  have le := ctB_le (by1 e) 4 0
  have hd : mm_E n xs N (dd + 2) 99 [.ref 16, .int a, .int b, .int c, .int d, .int e] M = (if nI (s + ctB (qB a b c d e) 0 20) ≤ (240 : Int32) then ((mm_aV (mm_E n xs N (dd + 1) 72 [.ref 17, .int a] M)).bind fun p7 => ((mm_aV (mm_E n xs N (dd + 1) 72 [.ref 17, .int b] p7)).bind fun p8 => ((mm_aV (mm_E n xs N (dd + 1) 72 [.ref 17, .int c] p8)).bind fun p9 => ((mm_aV (mm_E n xs N (dd + 1) 72 [.ref 17, .int d] p9)).bind fun p10 => ((mm_aV (mm_E n xs N (dd + 1) 72 [.ref 17, .int e] p10)).bind fun p11 => ((mm_aI (mm_E n xs N (dd + 1) 70 [.ref 17] p11)).bind fun p12 => some (some (.int p12.1), p12.2))))))) else some (some (.int (-1 : Int32)), M)) := by
    rw [u_X11_feed]
    (rw [E_sgn hN dd M a, ra_I, Option.bind_some]; dsimp only)
    (rw [E_sgn hN dd M b, ra_I, Option.bind_some]; dsimp only)
    (rw [E_sgn hN dd M c, ra_I, Option.bind_some]; dsimp only)
    (rw [E_sgn hN dd M d, ra_I, Option.bind_some]; dsimp only)
    (rw [E_sgn hN dd M e, ra_I, Option.bind_some]; dsimp only)
    rw [u_X9_size, hs, ra_I, Option.bind_some]
    dsimp only
    rw [nI_add, nI_add, nI_add, nI_add, nI_add, c20]
  rw [hd]
  by_cases q : s + ctB (qB a b c d e) 0 20 ≤ 240
  · rw [if_pos (show nI (s + ctB (qB a b c d e) 0 20) ≤ (240 : Int32) from nI_le (b := 240) q (by omega)), if_pos q, if_pos q, if_pos q]
    obtain ⟨M1, e1, x1, y1, z1⟩ := E_put (n := n) (xs := xs) (N := N) hN dd a hs (by omega)
    rw [tpB_1] at y1
    obtain ⟨M2, e2, x2, y2, z2⟩ := E_put (n := n) (xs := xs) (N := N) hN dd b y1 (by omega)
    rw [tpB_1] at y2
    obtain ⟨M3, e3, x3, y3, z3⟩ := E_put (n := n) (xs := xs) (N := N) hN dd c y2 (by omega)
    rw [tpB_1] at y3
    obtain ⟨M4, e4, x4, y4, z4⟩ := E_put (n := n) (xs := xs) (N := N) hN dd d y3 (by omega)
    rw [tpB_1] at y4
    obtain ⟨M5, e5, x5, y5, z5⟩ := E_put (n := n) (xs := xs) (N := N) hN dd e y4 (by omega)
    rw [tpB_1] at y5
    have hsz : s + ctB (by1 a) 0 4 + ctB (by1 b) 0 4 + ctB (by1 c) 0 4 + ctB (by1 d) 0 4 + ctB (by1 e) 0 4 = s + ctB (qB a b c d e) 0 20 := by omega
    dsimp only at y5
    rw [hsz] at y5
    refine ⟨M5, ?_, (((x1.tr x2).tr x3).tr x4).tr x5, y5, ?_⟩
    · rw [e1, ra_V, Option.bind_some, e2, ra_V, Option.bind_some, e3, ra_V, Option.bind_some, e4, ra_V, Option.bind_some, e5, ra_V, Option.bind_some, u_X9_size, y5, ra_I, Option.bind_some]
    · rw [z5, z4, z3, z2, z1, tp_20]
      have p1 : ∀ (w : Int32) (u : Nat × (Nat → Int32)), (u.1 + ctB (by1 w) 0 4, (tpB (by1 w) 0 4 u).2) = tpB (by1 w) 0 4 u := fun w u => by rw [← tpB_1]
      rw [p1 a (s, mm_I M 18), p1 b, p1 c, p1 d]
  · rw [if_neg (show ¬ nI (s + ctB (qB a b c d e) 0 20) ≤ (240 : Int32) from nI_ge (a := 240) (by omega) (by omega)), if_neg q, if_neg q, if_neg q]
    exact ⟨M, rfl, TX.rf, hs, rfl⟩
theorem E_byteOf (dd : Nat) (M : mmM) (a b c d e : Int32) {k : Nat} (hk : k < 20) : mm_E n xs N (dd + 1) 183 [.int a, .int b, .int c, .int d, .int e, .int (nI k)] M = some (some (.int (qB a b c d e k)), M) := by
  have e1 : nI k - nI k / 4 * 4 = nI (k % 4) := pk_rem (d := 4) (by omega) (by omega) (by omega)
  have e2 : (24 : Int32) - 8 * nI (k % 4) = shI (k % 4) := by
    rcases (show k % 4 = 0 ∨ k % 4 = 1 ∨ k % 4 = 2 ∨ k % 4 = 3 by omega) with h | h | h | h <;> rw [h] <;> decide
  rw [u_X12_byteOf, e1, e2]
  simp only [c40, if_false]
  unfold qB by1 wdB
  by_cases k4 : k < 4
  · rw [if_neg (show ¬ (4 : Int32) ≤ nI k from nI_ge (b := 4) k4 (by omega)), if_pos k4]
  · rw [if_pos (show (4 : Int32) ≤ nI k from nI_le (a := 4) (by omega) (by omega)), if_neg k4]
    by_cases k8 : k < 8
    · rw [if_neg (show ¬ (8 : Int32) ≤ nI k from nI_ge (b := 8) k8 (by omega)), if_pos k8]
    · rw [if_pos (show (8 : Int32) ≤ nI k from nI_le (a := 8) (by omega) (by omega)), if_neg k8]
      by_cases k12 : k < 12
      · rw [if_neg (show ¬ (12 : Int32) ≤ nI k from nI_ge (b := 12) k12 (by omega)), if_pos k12]
      · rw [if_pos (show (12 : Int32) ≤ nI k from nI_le (a := 12) (by omega) (by omega)), if_neg k12]
        by_cases k16 : k < 16
        · rw [if_neg (show ¬ (16 : Int32) ≤ nI k from nI_ge (b := 16) k16 (by omega)), if_pos k16]
        · rw [if_pos (show (16 : Int32) ≤ nI k from nI_le (a := 16) (by omega) (by omega)), if_neg k16]
theorem L_fd6 (dd : Nat) (a b c d e : Int32) (g : Nat) : ∀ (j i t : Nat), i + j = 20 → lp_X12_feed n xs N (dd + 1) (g + j) 6 [some (.ref 60), some (.int a), some (.int b), some (.int c), some (.int d), some (.int e), some (.int (nI t)), some (.int (nI i)), none] [] M = lp_X12_feed n xs N (dd + 1) g 6 [some (.ref 60), some (.int a), some (.int b), some (.int c), some (.int d), some (.int e), some (.int (nI (t + ctB (qB a b c d e) i j))), some (.int (nI 20)), none] [] M := by
  intro j
  induction j with
  | zero =>
    intro i t hij
    have : i = 20 := by omega
    subst this
    rfl
  | succ j ih =>
    intro i t hij
    rw [← Nat.add_assoc g j 1, lu_X12_feed_6, if_neg (show ¬ (20 : Int32) ≤ nI i from nI_ge (b := 20) (by omega) (by omega)), E_byteOf dd M a b c d e (show i < 20 by omega), ra_I, Option.bind_some, ctB_s]
    dsimp only
    by_cases q : qB a b c d e i = 0
    · rw [if_pos q, Int32.add_zero, nI_1]
      have := ih (i + 1) t (by omega)
      unfold nz
      rw [if_pos q, Nat.zero_add]
      exact this
    · rw [if_neg q, nI_1, nI_1]
      unfold nz
      rw [if_neg q, ← Nat.add_assoc]
      exact ih (i + 1) (t + 1) (by omega)
theorem L_fd62 (dd : Nat) (a b c d e : Int32) (g : Nat) : ∀ (j i s : Nat) (M : mmM), i + j = 20 → mm_I M 60 2 = nI s → s + ctB (qB a b c d e) i j ≤ 240 → ∃ M1, lp_X12_feed n xs N (dd + 1) (g + j + 1) 62 [some (.ref 60), some (.int a), some (.int b), some (.int c), some (.int d), some (.int e), none, some (.int (nI i)), none] [] M = some (some (.int (nI (tpB (qB a b c d e) i j (s, mm_I M 61)).1)), M1) ∧ TM M M1 ∧ mm_I M1 60 2 = nI (tpB (qB a b c d e) i j (s, mm_I M 61)).1 ∧ mm_I M1 61 = (tpB (qB a b c d e) i j (s, mm_I M 61)).2 := by
  intro j
  induction j with
  | zero =>
    intro i s M hij hs h240
    have : i = 20 := by omega
    subst this
    refine ⟨M, ?_, TM.rf, hs, rfl⟩
    rw [lu_X12_feed_62, if_pos (show (20 : Int32) ≤ nI 20 from nI_le (a := 20) (by omega) (by omega)), hs]
    rfl
  | succ j ih =>
    intro i s M hij hs h240
    rw [ctB_s] at h240
    rw [← Nat.add_assoc g j 1, lu_X12_feed_62, if_neg (show ¬ (20 : Int32) ≤ nI i from nI_ge (b := 20) (by omega) (by omega)), E_byteOf dd M a b c d e (show i < 20 by omega), ra_I, Option.bind_some, tpB_s]
    dsimp only
    by_cases q : qB a b c d e i = 0
    · rw [if_pos q, if_pos q, nI_1]
      exact ih (i + 1) s M (by omega) hs (by omega)
    · have hnz : nz (qB a b c d e i) = 1 := by unfold nz; rw [if_neg q]
      rw [if_neg q, if_neg q, nI_1, hs, mm_inb_nI (show s < 240 by omega) (by omega), mm_ble (show 16 ≤ 61 by omega), Bool.and_self, cond_true, nI_clamp (by omega), nI_1]
      obtain ⟨M1, e1, x1, x2, x3⟩ := ih (i + 1) (s + 1) (mm_wI (mm_wI M 61 s (qB a b c d e i)) 60 2 (nI (s + 1))) (by omega) (by rw [I_s, if_pos rfl]) (by omega)
      have e61 : mm_I (mm_wI (mm_wI M 61 s (qB a b c d e i)) 60 2 (nI (s + 1))) 61 = fun x => if x = s then qB a b c d e i else mm_I M 61 x := by
        funext x
        rw [I_wn (by decide), I_s]
      rw [e61] at e1 x2 x3
      refine ⟨M1, e1, ⟨x1.1, x1.2.1, x1.2.2.1, x1.2.2.2.1, fun y a1 a2 => by rw [x1.2.2.2.2.1 y a1 a2, I_wn a1, I_wn a2], fun y hy => by rw [x1.2.2.2.2.2.1 y hy, I_s, if_neg hy, I_wn (by decide)], x1.2.2.2.2.2.2⟩, x2, x3⟩
theorem E_feedM (hN : 100 ≤ N) (dd : Nat) (a b c d e : Int32) {s : Nat} (hs : mm_I M 60 2 = nI s) (h240 : s ≤ 240) : ∃ M1, mm_E n xs N (dd + 2) 184 [.ref 60, .int a, .int b, .int c, .int d, .int e] M = some (some (.int (if s + ctB (qB a b c d e) 0 20 ≤ 240 then nI (s + ctB (qB a b c d e) 0 20) else -1)), M1) ∧ TM M M1 ∧ mm_I M1 60 2 = nI (if s + ctB (qB a b c d e) 0 20 ≤ 240 then s + ctB (qB a b c d e) 0 20 else s) ∧ mm_I M1 61 = (if s + ctB (qB a b c d e) 0 20 ≤ 240 then (tpB (qB a b c d e) 0 20 (s, mm_I M 61)).2 else mm_I M 61) := by
  obtain ⟨g, hg⟩ : ∃ g, N = g + 20 + 1 + 1 + 20 := ⟨N - 42, by omega⟩
  have e0 := L_fd6 (n := n) (xs := xs) (N := N) (M := M) dd a b c d e (g + 20 + 1 + 1) 20 0 0 (by omega)
  have hc := ctB_le (qB a b c d e) 20 0
  rw [← hg, nI_0, Nat.zero_add] at e0
  rw [u_X12_feed, e0, lu_X12_feed_6, if_pos (show (20 : Int32) ≤ nI 20 from nI_le (a := 20) (by omega) (by omega)), hs, nI_add]
  by_cases q : s + ctB (qB a b c d e) 0 20 ≤ 240
  · rw [if_pos (show nI (s + ctB (qB a b c d e) 0 20) ≤ (240 : Int32) from nI_le (b := 240) q (by omega)), if_pos q, if_pos q, if_pos q]
    obtain ⟨M1, e1, x1, x2, x3⟩ := L_fd62 (n := n) (xs := xs) (N := N) dd a b c d e g 20 0 s M (by omega) hs (by omega)
    rw [tpB_1, nI_0] at e1
    rw [tpB_1] at x2
    exact ⟨M1, e1, x1, x2, x3⟩
  · rw [if_neg (show ¬ nI (s + ctB (qB a b c d e) 0 20) ≤ (240 : Int32) from nI_ge (a := 240) (by omega) (by omega)), if_neg q, if_neg q, if_neg q]
    exact ⟨M, rfl, TM.rf, hs, rfl⟩
theorem qB_bd (a b c d e : Int32) (m : Nat) : qB a b c d e m = 0 ∨ bd 1 255 (qB a b c d e m) := by
  obtain ⟨k, hk, ek⟩ := by_bd (wdB a b c d e m) (m % 4)
  show by1 (wdB a b c d e m) (m % 4) = 0 ∨ bd 1 255 (by1 (wdB a b c d e m) (m % 4))
  rw [ek]
  by_cases q : k = 0
  · left; rw [q]; rfl
  · right
    unfold bd
    rw [nI_toInt (by omega)]
    omega
/-- the tape is fed -/
theorem B_feed {s : Nat} (hN : 100 ≤ N) (hT : RTP M s) (dd : Nat) (a b c d e : Int32) : ∃ v s' M1 M2, mm_E n xs N (dd + 60) 99 [.ref 16, .int a, .int b, .int c, .int d, .int e] M = some (some (.int v), M1) ∧ mm_E n xs N (dd + 60) 184 [.ref 60, .int a, .int b, .int c, .int d, .int e] M1 = some (some (.int v), M2) ∧ TX M M1 ∧ TM M1 M2 ∧ RTP M2 s' := by
  obtain ⟨t1, t2, t3, t4⟩ := hT
  obtain ⟨M1, e1, x1, y1, z1⟩ := E_feedX (n := n) (xs := xs) (N := N) hN (dd + 58) a b c d e t2 t1
  have h60 : mm_I M1 60 2 = nI s := by rw [x1.2.2.2.2.1 60 (by decide) (by decide)]; exact t3
  have h61 : mm_I M1 61 = mm_I M 61 := x1.2.2.2.2.1 61 (by decide) (by decide)
  obtain ⟨M2, e2, x2, y2, z2⟩ := E_feedM (n := n) (xs := xs) (N := N) hN (dd + 58) a b c d e h60 t1
  refine ⟨_, if s + ctB (qB a b c d e) 0 20 ≤ 240 then s + ctB (qB a b c d e) 0 20 else s, M1, M2, e1, e2, x1, x2, ?_, ?_, y2, ?_⟩
  · split <;> omega
  · rw [x2.2.2.2.2.1 17 (by decide) (by decide)]; exact y1
  · rw [x2.2.2.2.2.1 18 (by decide) (by decide), z2, z1, h61]
    by_cases q : s + ctB (qB a b c d e) 0 20 ≤ 240
    · rw [if_pos q, if_pos q, if_pos q]
      have := tpB_ok (qB a b c d e) (qB_bd a b c d e) 20 0 (s, mm_I M 18) (s, mm_I M 61) rfl (fun x hx => t4 x hx)
      rw [tpB_1] at this
      exact this
    · rw [if_neg q, if_neg q, if_neg q]
      exact t4
theorem B_end {s : Nat} (hT : RTP M s) (dd : Nat) (x : Int32) : ∃ v s' M1 M2, mm_E n xs N (dd + 60) 100 [.ref 16, .int x] M = some (some (.int v), M1) ∧ mm_E n xs N (dd + 60) 185 [.ref 60, .int x] M1 = some (some (.int v), M2) ∧ TX M M1 ∧ TM M1 M2 ∧ RTP M2 s' := by
  obtain ⟨t1, t2, t3, t4⟩ := hT
  by_cases q : x < 0
  · refine ⟨0, s, M, M, ?_, ?_, TX.rf, TM.rf, t1, t2, t3, t4⟩
    · rw [u_X11_end, u_X9_cutBehind, if_pos q, ra_I, Option.bind_some]
      rfl
    · rw [u_X12_end, if_pos q]
  · obtain ⟨j, hj, rfl⟩ := nI_of q
    by_cases w : j ≤ s
    · refine ⟨1, j, mm_wI M 17 1 (nI j), mm_wI (mm_wI M 17 1 (nI j)) 60 2 (nI j), ?_, ?_, ⟨rfl, rfl, rfl, rfl, fun a a1 _ => I_wn a1, rfl⟩, ⟨rfl, rfl, rfl, rfl, fun a a1 _ => I_wn a1, fun y hy => by rw [I_s, if_neg hy], rfl⟩, by omega, ?_, ?_, fun i hi => ?_⟩
      · rw [u_X11_end, u_X9_cutBehind, if_neg q, t2, if_pos (nI_le w (by omega)), ra_I, Option.bind_some]
        rfl
      · rw [u_X12_end, if_neg q, I_wn (show 60 ≠ 17 by decide), t3, if_pos (nI_le w (by omega))]
      · rw [I_wn (by decide), I_s, if_pos rfl]
      · rw [I_s, if_pos rfl]
      · rw [I_wn (by decide), I_wn (by decide), I_wn (by decide), I_wn (by decide)]
        exact t4 i (by omega)
    · refine ⟨0, s, M, M, ?_, ?_, TX.rf, TM.rf, t1, t2, t3, t4⟩
      · rw [u_X11_end, u_X9_cutBehind, if_neg q, t2, if_neg (nI_ge (by omega) (by omega)), ra_I, Option.bind_some]
        rfl
      · rw [u_X12_end, if_neg q, t3, if_neg (nI_ge (by omega) (by omega))]
end FE
