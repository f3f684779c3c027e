/-! which strokes to try -/
def zI (z : Int) : Int32 := Int32.ofInt z
theorem zI_n (k : Nat) : nI k = zI k := by
  apply Int32.toBitVec_inj.mp
  exact (BitVec.ofInt_natCast 32 k).symm
theorem zI_add (a b : Int) : zI a + zI b = zI (a + b) := (Int32.ofInt_add a b).symm
theorem zI_sub (a b : Int) : zI a - zI b = zI (a - b) := (Int32.ofInt_sub a b).symm
theorem zI_mul (a b : Int) : zI a * zI b = zI (a * b) := (Int32.ofInt_mul a b).symm
def upF (p q : Nat → Bool) (i j : Nat) (a : Nat) : Nat := foldI (fun y a => if p y = true then (if q y = true then a else a + 1) else a) i j a
def sgF (p q : Nat → Bool) (i j : Nat) (z : Int) : Int := foldI (fun y z => if p y = true then (if q y = true then z + (-1) else z + 1) else z) i j z
theorem upF_s (p q : Nat → Bool) (i j a : Nat) : upF p q i (j + 1) a = upF p q (i + 1) j (if p i = true then (if q i = true then a else a + 1) else a) := rfl
theorem sgF_s (p q : Nat → Bool) (i j : Nat) (z : Int) : sgF p q i (j + 1) z = sgF p q (i + 1) j (if p i = true then (if q i = true then z + (-1) else z + 1) else z) := rfl
theorem up_sg (p q : Nat → Bool) : ∀ j, sgF p q 0 j 0 = 2 * (upF p q 0 j 0 : Int) - (cnt p j : Int)
  | 0 => rfl
  | j + 1 => by
    have ih := up_sg p q j
    unfold sgF upF at ih ⊢
    rw [foldI_succ, foldI_succ, ih, Nat.zero_add, show cnt p (j + 1) = cnt p j + (p j).toNat from rfl]
    cases p j with
    | false => rw [if_neg (by decide), if_neg (by decide), show false.toNat = 0 from rfl]; omega
    | true =>
      rw [if_pos rfl, if_pos rfl, show true.toNat = 1 from rfl]
      cases q j with
      | false => rw [if_neg (by decide), if_neg (by decide)]; omega
      | true => rw [if_pos rfl, if_pos rfl]; omega
def pbV (gv : Int32 → Int32 → Int32 → Int32 → Int32) (p : Nat → Bool) (w x : Int32) (t : Nat) : Int32 := i_abs (zI (sgF p (fun y => decide (mo gv w (nI y) t < x)) 0 10 0))
theorem pbV_d (gv : Int32 → Int32 → Int32 → Int32 → Int32) (p : Nat → Bool) (w x : Int32) (t : Nat) : i_abs (zI (sgF p (fun y => decide (mo gv w (nI y) t < x)) 0 10 0)) = pbV gv p w x t := rfl
def pb (V : Nat → Int32) (i j : Nat) (b : Int32 × Int32) : Int32 × Int32 := foldI (fun t b => if b.1 = -1 then (nI t, V t) else if b.2 ≤ V t then b else (nI t, V t)) i j b
theorem pb_s (V : Nat → Int32) (i j : Nat) (b : Int32 × Int32) : pb V i (j + 1) b = pb V (i + 1) j (if b.1 = -1 then (nI i, V i) else if b.2 ≤ V i then b else (nI i, V i)) := rfl
theorem scr_w {M : mmM} {a k : Nat} {v : Int32} (ha : scr a = true) (h1 : a ≠ 25) (h2 : a ≠ 60) (h3 : k ≠ 0 ∨ a ≠ 54 ∧ a ≠ 55) : FR M (mm_wI M a k v) := ⟨rfl, rfl, rfl, rfl, fun b hb => I_wn (scr_ne hb ha), fun k _ => by rw [I_wn (Ne.symm h1)], fun k _ _ => by rw [I_wn (Ne.symm h2)], fun b hb => by
    rw [I_w]
    by_cases q : b = a
    · rw [if_pos q, if_neg (by omega)]
    · rw [if_neg q], rfl⟩
section PB
variable {n : Nat} {xs : Nat → Int32} {N : Nat} {gv : Int32 → Int32 → Int32 → Int32 → Int32} {M M' M0 : mmM} {nc nm k : Nat}
theorem s58 (M : mmM) : mm_s (mm_Y n xs) M 58 = .inr (0, 10) := rfl
theorem L_fill58 (d : Nat) : ∀ (j i f : Nat) (M : mmM), i + j = 10 → j < f → ∃ M1, S1 58 M M1 ∧ (∀ y, i ≤ y → y < 10 → mm_I M1 58 y = 0) ∧ (∀ y, y < i → mm_I M1 58 y = mm_I M 58 y) ∧ lp_J7_fill_53178 n xs N d f 5 [some (.ref 58), some (.int 0), some (.int (nI i)), some (.int (nI 10))] [] M = some (none, M1) := by
  intro j
  induction j with
  | zero =>
    intro i f M hij hf
    obtain ⟨f, rfl⟩ : ∃ g, f = g + 1 := ⟨f - 1, by omega⟩
    refine ⟨M, S1.rf, fun y h1 h2 => by omega, fun y _ => rfl, ?_⟩
    rw [lu_J7_fill_53178_5, if_pos (nI_le (by omega) (by omega))]
  | succ j ih =>
    intro i f M hij hf
    obtain ⟨f, rfl⟩ : ∃ g, f = g + 1 := ⟨f - 1, by omega⟩
    obtain ⟨M1, s1, a1, a2, e1⟩ := ih (i + 1) f (mm_wI M 58 i 0) (by omega) (by omega)
    refine ⟨M1, S1.wI.tr s1, fun y h1 h2 => ?_, fun y hy => ?_, ?_⟩
    · by_cases q : y = i
      · subst q
        rw [a2 y (by omega), I_w, if_pos rfl, if_pos rfl]
      · exact a1 y (by omega) h2
    · rw [a2 y (by omega), I_w, if_pos rfl, if_neg (by omega)]
    · rw [lu_J7_fill_53178_5, if_neg (nI_ge (show i < 10 by omega) (by omega)), s58, show mm_arr (.inr (0, 10)) 0 = some 10 from rfl]
      simp only [Option.bind_some, mm_inb_nI (show i < 10 by omega) (by omega), mm_ble (show 16 ≤ 58 by omega), Bool.and_self, cond_true, nI_clamp (show i < 2 ^ 31 by omega), nI_1]
      exact e1
theorem E_fill58 (hN : 100 ≤ N) (d : Nat) (M : mmM) : ∃ M1, S1 58 M M1 ∧ (∀ y, y < 10 → mm_I M1 58 y = 0) ∧ mm_E n xs N (d + 1) 306 [.ref 58, .int 0] M = some (none, M1) := by
  obtain ⟨M1, s1, a1, -, e1⟩ := L_fill58 (n := n) (xs := xs) (N := N) d 10 0 N M (by omega) (by omega)
  refine ⟨M1, s1, fun y hy => a1 y (by omega) hy, ?_⟩
  rw [u_J7_fill_53178, s58]
  exact e1
theorem S1.fr58 (h : S1 58 M M') : FR M M' := ⟨h.1, h.2.1, h.2.2.1, h.2.2.2.2.1, fun b hb => h.I (scr_ne hb rfl), fun k _ => by rw [h.I (by decide)], fun k _ _ => by rw [h.I (by decide)], fun a ha => by rw [h.I (by omega)], h.2.2.2.1⟩
/-- one stroke more for all yolks of the set -/
theorem L_waX (d u : Nat) (hu : u ≤ 40) {w x : Int32} (p : Nat → Bool) (hw : bd 0 9 w) : ∀ (j i f a : Nat) (M : mmM), CT n xs N gv M nc nm → i + j = 10 → j < f → (∀ y, y < 10 → p y = true → mm_I M 58 y = mo gv w (nI y) (if y < i then u + 1 else u)) → ∃ M1, FR M M1 ∧ (∀ y, y < 10 → p y = true → mm_I M1 58 y = mo gv w (nI y) (u + 1)) ∧ lp_X11_whiskAllYolks n xs N (d + 9) f 6 [some (.ref 16), some (.int (fyS p 0 10 0)), some (.int w), some (.int (nI u)), some (.int x), some (.int (nI a)), some (.int (nI i))] [] M = some (some (.int (nI (upF p (fun y => decide (mo gv w (nI y) (u + 1) < x)) i j a))), M1) := by
  intro j
  induction j with
  | zero =>
    intro i f a M h hij hf h58
    obtain ⟨f, rfl⟩ : ∃ g, f = g + 1 := ⟨f - 1, by omega⟩
    refine ⟨M, FR.rf, fun y h1 h2 => ?_, ?_⟩
    · rw [h58 y h1 h2, if_pos (by omega)]
    · rw [lu_X11_whiskAllYolks_6, if_pos (show Int32.ofNat 10 ≤ nI i from nI_le (a := 10) (by omega) (by omega))]
      rfl
  | succ j ih =>
    intro i f a M h hij hf h58
    obtain ⟨f, rfl⟩ : ∃ g, f = g + 1 := ⟨f - 1, by omega⟩
    rw [lu_X11_whiskAllYolks_6, if_neg (show ¬ Int32.ofNat 10 ≤ nI i from nI_ge (b := 10) (by omega) (by omega)), upF_s]
    simp only [ib_ne, fyS_ib p (show 10 ≤ 31 by omega) (show i < 32 by omega), decide_eq_true (show i < 10 by omega), Bool.true_and, nI_1]
    cases hp : p i with
    | false =>
      rw [if_pos rfl, if_neg (by decide)]
      obtain ⟨M2, f2, b2, e2⟩ := ih (i + 1) f a M h (by omega) (by omega) (fun y h1 h2 => by
        rw [h58 y h1 h2]
        by_cases q : y = i
        · subst q; rw [hp] at h2; cases h2
        · have e : (y < i) = (y < i + 1) := propext (by omega)
          simp only [e])
      exact ⟨M2, f2, b2, e2⟩
    | true =>
      rw [if_neg (by decide), if_pos rfl]
      have h1 := h58 i (by omega) hp
      rw [if_neg (by omega)] at h1
      obtain ⟨M1, e1, s1⟩ := E_wh (y := nI i) h d hw (mo_bd gv w (nI i) u) (k := nI u) (nI_bd (h := 999) (by omega) (by omega)) (nI_bd (h := 9) (by omega) (by omega))
      rw [← mo_s] at e1
      have f1 : FR M (mm_wI M1 58 i (mo gv w (nI i) (u + 1))) := s1.fr.tr (scr_w rfl (by decide) (by decide) (Or.inr (by decide)))
      obtain ⟨M2, f2, b2, e2⟩ := ih (i + 1) f (if decide (mo gv w (nI i) (u + 1) < x) = true then a else a + 1) (mm_wI M1 58 i (mo gv w (nI i) (u + 1))) (h.mv f1) (by omega) (by omega) (fun y g1 g2 => by
        rw [I_w, if_pos rfl]
        by_cases q : y = i
        · subst q
          rw [if_pos rfl, if_pos (by omega)]
        · rw [if_neg q, s1.I (by decide) (by decide), h58 y g1 g2]
          have e : (y < i) = (y < i + 1) := propext (by omega)
          simp only [e])
      refine ⟨M2, f1.tr f2, b2, ?_⟩
      simp only [mm_inb_nI (show i < 10 by omega) (by omega), mm_ble (show 16 ≤ 58 by omega), Bool.and_self, cond_true, nI_clamp (show i < 2 ^ 31 by omega), h1]
      (rw [e1, ra_I]; simp only [Option.bind_some])
      rw [I_w, if_pos rfl, if_pos rfl, ← e2]
      by_cases q : mo gv w (nI i) (u + 1) < x
      · rw [if_pos q, if_pos (decide_eq_true q), Int32.add_zero]
      · rw [if_neg q, if_neg (by simp only [decide_eq_true_eq]; exact q)]
theorem E_waX (h : CT n xs N gv M nc nm) (d u : Nat) (hu : u ≤ 40) {w x : Int32} (p : Nat → Bool) (hw : bd 0 9 w) (h58 : ∀ y, y < 10 → p y = true → mm_I M 58 y = mo gv w (nI y) u) : ∃ M1, FR M M1 ∧ (∀ y, y < 10 → p y = true → mm_I M1 58 y = mo gv w (nI y) (u + 1)) ∧ mm_E n xs N (d + 10) 158 [.ref 16, .int (fyS p 0 10 0), .int w, .int (nI u), .int x] M = some (some (.int (nI (upF p (fun y => decide (mo gv w (nI y) (u + 1) < x)) 0 10 0))), M1) := by
  have hN := h.nN
  obtain ⟨M1, f1, b1, e1⟩ := L_waX (n := n) (xs := xs) (N := N) (x := x) d u hu p hw 10 0 N 0 M h (by omega) (by omega) (fun y h1 h2 => by rw [h58 y h1 h2, if_neg (by omega)])
  exact ⟨M1, f1, b1, by rw [u_X11_whiskAllYolks]; exact e1⟩
theorem pbV_c (p q : Nat → Bool) : (2 : Int32) * nI (upF p q 0 10 0) - nI (cnt p 10) = zI (sgF p q 0 10 0) := by
  rw [up_sg, zI_n, zI_n, show (2 : Int32) = zI 2 from rfl, zI_mul, zI_sub]
/-- one step of the class's search -/
theorem pX_out (d f : Nat) (c x s b v : Int32) (M : mmM) {t : Nat} (ht : 40 < t) (h31 : t < 2 ^ 31) : lp_X11_probe n xs N d (f + 1) 45 [some (.ref 16), some (.int c), some (.int x), some (.int s), some (.int b), some (.int v), some (.int (nI t)), none, none] [] M = some (some (.int b), M) := by
  rw [lu_X11_probe_45, if_pos (show (40 : Int32) < nI t from nI_lt (a := 40) ht h31)]
theorem pX_in (h : CT n xs N gv M nc nm) (d f u : Nat) (hu : u < 40) {c : Nat} (hc : c < nc) (p : Nat → Bool) (x : Int32) (b : Int32 × Int32) {w : Int32} (ew : mm_I M 37 c = w) (h58 : ∀ y, y < 10 → p y = true → mm_I M 58 y = mo gv w (nI y) u) : ∃ M1, FR M M1 ∧ (∀ y, y < 10 → p y = true → mm_I M1 58 y = mo gv w (nI y) (u + 1)) ∧ ∀ b', b' = (if b.1 = -1 then (nI (u + 1), pbV gv p w x (u + 1)) else if b.2 ≤ pbV gv p w x (u + 1) then b else (nI (u + 1), pbV gv p w x (u + 1))) → lp_X11_probe n xs N (d + 10) (f + 1) 45 [some (.ref 16), some (.int (nI c)), some (.int x), some (.int (fyS p 0 10 0)), some (.int b.1), some (.int b.2), some (.int (nI (u + 1))), none, none] [] M = lp_X11_probe n xs N (d + 10) f 45 [some (.ref 16), some (.int (nI c)), some (.int x), some (.int (fyS p 0 10 0)), some (.int b'.1), some (.int b'.2), some (.int (nI (u + 1 + 1))), none, none] [] M1 := by
  have h4 := h.nc4
  obtain ⟨M1, f1, b1, e1⟩ := E_waX h d u (by omega) (x := x) p (w := w) (by rw [← ew]; exact h.w9 hc) h58
  refine ⟨M1, f1, b1, fun b' hb' => ?_⟩
  rw [lu_X11_probe_45, if_neg (show ¬ (40 : Int32) < nI (u + 1) from nI_nlt (a := 40) (by omega) (by omega)), nI_pred, nI_1]
  (rw [E_wristOf (d + 9) M c (by omega), ra_I, Option.bind_some]; dsimp only)
  rw [ew]
  (rw [e1, ra_I, Option.bind_some]; dsimp only)
  (rw [E_bitCount (d + 9) M1 p, ra_I, Option.bind_some]; dsimp only)
  (rw [E_abs (d + 9) M1 _, ra_I, Option.bind_some]; dsimp only)
  rw [pbV_c, pbV_d, hb']
  by_cases q1 : b.1 = -1
  · rw [if_pos q1, if_pos q1]
  · rw [if_neg q1, if_neg q1]
    by_cases q2 : b.2 ≤ pbV gv p w x (u + 1)
    · rw [if_pos q2, if_pos q2]
    · rw [if_neg q2, if_neg q2]
theorem L_prX (d : Nat) {c : Nat} (p : Nat → Bool) (x : Int32) {w : Int32} : ∀ (j u f : Nat) (b : Int32 × Int32) (M : mmM), CT n xs N gv M nc nm → c < nc → mm_I M 37 c = w → (∀ y, y < 10 → p y = true → mm_I M 58 y = mo gv w (nI y) u) → u + j = 40 → j < f → ∃ M1, FR M M1 ∧ lp_X11_probe n xs N (d + 10) f 45 [some (.ref 16), some (.int (nI c)), some (.int x), some (.int (fyS p 0 10 0)), some (.int b.1), some (.int b.2), some (.int (nI (u + 1))), none, none] [] M = some (some (.int (pb (pbV gv p w x) (u + 1) j b).1), M1) := by
  intro j
  induction j with
  | zero =>
    intro u f b M h hc ew h58 hij hf
    obtain ⟨f, rfl⟩ : ∃ g, f = g + 1 := ⟨f - 1, by omega⟩
    exact ⟨M, FR.rf, pX_out _ _ _ _ _ _ _ M (by omega) (by omega)⟩
  | succ j ih =>
    intro u f b M h hc ew h58 hij hf
    obtain ⟨f, rfl⟩ : ∃ g, f = g + 1 := ⟨f - 1, by omega⟩
    obtain ⟨M1, f1, b1, e1⟩ := pX_in h d f u (by omega) hc p x b ew h58
    obtain ⟨M2, f2, e2⟩ := ih (u + 1) f _ M1 (h.mv f1) hc (by rw [f1.I (show scr 37 = false by decide)]; exact ew) b1 (by omega) (by omega)
    refine ⟨M2, f1.tr f2, ?_⟩
    rw [e1 _ rfl, pb_s]
    exact e2
theorem rsL_f0 (p : Nat → Bool) : ∀ (j i : Nat), i + j < 2 ^ 31 → (rsL p nI 0 j i 0 = -1 ↔ ∀ y, i ≤ y → y < i + j → p y = false)
  | 0, i, _ => by
    rw [rsL_e]
    constructor
    · intro _ y h1 h2; omega
    · intro _; rfl
  | j + 1, i, h => by
    rw [rsL_s]
    cases hp : p i with
    | false =>
      rw [if_neg (by decide), rsL_f0 p j (i + 1) (by omega)]
      constructor
      · intro g y h1 h2
        by_cases q : y = i
        · subst q; exact hp
        · exact g y (by omega) (by omega)
      · intro g y h1 h2
        exact g y (by omega) (by omega)
    | true =>
      rw [if_pos rfl, if_pos nI_0]
      constructor
      · intro g; exact absurd g (nI_ne1 (by omega))
      · intro g
        have := g i (by omega) (by omega)
        rw [hp] at this
        cases this
/-! the model's search -/
theorem L_pM1 (hS : RS M0 nc k) (d : Nat) (c x : Int32) : ∀ (j i f : Nat) (a : Int32) (M : mmM), CT n xs N gv M nc nm → FR M0 M → i + j = 10 → ∃ M1, SM M M1 ∧ lp_X12_probe n xs N (d + 11) (f + j + 1) 34 [some (.ref 60), some (.int c), some (.int x), some (.int a), some (.int (nI i)), none, none, none, none] [] M = lp_X12_probe n xs N (d + 11) f 76 [some (.ref 60), some (.int c), some (.int x), some (.int (fyS (fitP gv M0 k) i j a)), some (.int (-1)), some (.int 0), some (.int 1), none, none] [] M1 := by
  intro j
  induction j with
  | zero =>
    intro i f a M h fr hij
    refine ⟨M, SM.rf, ?_⟩
    rw [Nat.add_zero, lu_X12_probe_34, if_pos (show (9 : Int32) < nI i from nI_lt (a := 9) (by omega) (by omega))]
    rfl
  | succ j ih =>
    intro i f a M h fr hij
    obtain ⟨M1, s1, e1⟩ := E_yolk (n := n) (xs := xs) (N := N) hS h fr d i (by omega)
    obtain ⟨M2, s2, e2⟩ := ih (i + 1) f (if fitP gv M0 k i = true then a ||| ((1 : Int32) <<< (nI i &&& 31)) else a ||| 0) M1 (h.sm s1) (fr.tr s1.fr) (by omega)
    refine ⟨M2, s1.tr s2, ?_⟩
    rw [← Nat.add_assoc f j 1, lu_X12_probe_34, if_neg (show ¬ (9 : Int32) < nI i from nI_nlt (a := 9) (by omega) (by omega)), fyS_s, nI_1]
    (rw [e1, ra_I]; simp only [Option.bind_some])
    rw [← e2]
    cases fitP gv M0 k i with
    | false => rw [if_pos (show mb false = 0 by decide), if_neg (by decide)]
    | true => rw [if_neg (show ¬ mb true = 0 by decide), if_pos rfl]
theorem L_pM3 (d : Nat) (x : Int32) (p : Nat → Bool) {c t : Nat} (ht : t ≤ 40) (b : Int32 × Int32) : ∀ (j i f : Nat) (z : Int) (M : mmM), CT n xs N gv M nc nm → FR M0 M → c < nc → i + j = 10 → ∃ M1, SM M M1 ∧ lp_X12_probe n xs N (d + 11) (f + j) 89 [some (.ref 60), some (.int (nI c)), some (.int x), some (.int (fyS p 0 10 0)), some (.int b.1), some (.int b.2), some (.int (nI t)), some (.int (zI z)), some (.int (nI i))] [] M = lp_X12_probe n xs N (d + 11) f 89 [some (.ref 60), some (.int (nI c)), some (.int x), some (.int (fyS p 0 10 0)), some (.int b.1), some (.int b.2), some (.int (nI t)), some (.int (zI (sgF p (fun y => decide (mo gv (mm_I M0 37 c) (nI y) t < x)) i j z))), some (.int (nI 10))] [] M1 := by
  intro j
  induction j with
  | zero =>
    intro i f z M h fr hc hij
    refine ⟨M, SM.rf, ?_⟩
    rw [Nat.add_zero, show i = 10 by omega]
    rfl
  | succ j ih =>
    intro i f z M h fr hc hij
    rw [← Nat.add_assoc f j 1, lu_X12_probe_89, if_neg (show ¬ (9 : Int32) < nI i from nI_nlt (a := 9) (by omega) (by omega)), sgF_s, nI_1]
    (rw [E_has (d + 10) M _ i, ra_I]; simp only [Option.bind_some])
    rw [fyS_ib p (by omega) (by omega), decide_eq_true (show i < 10 by omega), Bool.true_and]
    cases hp : p i with
    | false =>
      obtain ⟨M2, s2, e2⟩ := ih (i + 1) f z M h fr hc (by omega)
      refine ⟨M2, s2, ?_⟩
      rw [if_pos (show mb false = 0 by decide), if_neg (by decide), Int32.add_zero, ← e2]
    | true =>
      rw [if_neg (show ¬ mb true = 0 by decide), if_pos rfl]
      obtain ⟨M1, s1, e1⟩ := E_morn (n := n) (xs := xs) (N := N) h fr (d + 1) i c (by omega) hc t ht
      (rw [e1, ra_I]; simp only [Option.bind_some])
      by_cases q : mo gv (mm_I M0 37 c) (nI i) t < x
      · obtain ⟨M2, s2, e2⟩ := ih (i + 1) f (z + (-1)) M1 (h.sm s1) (fr.tr s1.fr) hc (by omega)
        refine ⟨M2, s1.tr s2, ?_⟩
        rw [if_pos q, if_pos (decide_eq_true q), show (-1 : Int32) = zI (-1) from rfl, zI_add]
        exact e2
      · obtain ⟨M2, s2, e2⟩ := ih (i + 1) f (z + 1) M1 (h.sm s1) (fr.tr s1.fr) hc (by omega)
        refine ⟨M2, s1.tr s2, ?_⟩
        rw [if_neg q, if_neg (by simp only [decide_eq_true_eq]; exact q), show (1 : Int32) = zI 1 from rfl, zI_add]
        exact e2
theorem pM_end (d f : Nat) (c x s : Int32) (b b' : Int32 × Int32) (z : Int) {t : Nat} (M : mmM) (hb' : b' = (if b.1 = -1 then (nI t, i_abs (zI z)) else if b.2 ≤ i_abs (zI z) then b else (nI t, i_abs (zI z)))) : lp_X12_probe n xs N (d + 1) (f + 1) 89 [some (.ref 60), some (.int c), some (.int x), some (.int s), some (.int b.1), some (.int b.2), some (.int (nI t)), some (.int (zI z)), some (.int (nI 10))] [] M = lp_X12_probe n xs N (d + 1) f 76 [some (.ref 60), some (.int c), some (.int x), some (.int s), some (.int b'.1), some (.int b'.2), some (.int (nI (t + 1))), none, none] [] M := by
  rw [lu_X12_probe_89, if_pos (show (9 : Int32) < nI 10 from nI_lt (a := 9) (by omega) (by omega)), hb', nI_1]
  by_cases q1 : b.1 = -1
  · rw [if_pos q1, if_pos q1]
    (rw [E_abs d M _, ra_I]; simp only [Option.bind_some])
  · rw [if_neg q1, if_neg q1]
    (rw [E_abs d M _, ra_I]; simp only [Option.bind_some])
    by_cases q2 : b.2 ≤ i_abs (zI z)
    · rw [if_pos q2, if_pos q2]
    · rw [if_neg q2, if_neg q2]
      (rw [E_abs d M _, ra_I]; simp only [Option.bind_some])
theorem L_pM2 (d : Nat) (x : Int32) (p : Nat → Bool) {c : Nat} : ∀ (j t f : Nat) (b : Int32 × Int32) (M : mmM), CT n xs N gv M nc nm → FR M0 M → c < nc → t + j = 41 → 12 * j < f → ∃ M1, SM M M1 ∧ lp_X12_probe n xs N (d + 11) f 76 [some (.ref 60), some (.int (nI c)), some (.int x), some (.int (fyS p 0 10 0)), some (.int b.1), some (.int b.2), some (.int (nI t)), none, none] [] M = some (some (.int (pb (pbV gv p (mm_I M0 37 c) x) t j b).1), M1) := by
  intro j
  induction j with
  | zero =>
    intro t f b M h fr hc hij hf
    obtain ⟨f, rfl⟩ : ∃ g, f = g + 1 := ⟨f - 1, by omega⟩
    refine ⟨M, SM.rf, ?_⟩
    rw [lu_X12_probe_76, if_pos (show (40 : Int32) < nI t from nI_lt (a := 40) (by omega) (by omega))]
    rfl
  | succ j ih =>
    intro t f b M h fr hc hij hf
    obtain ⟨g, rfl⟩ : ∃ g, f = (g + 1 + 10) + 1 := ⟨f - 12, by omega⟩
    obtain ⟨M1, s1, e1⟩ := L_pM3 (n := n) (xs := xs) (N := N) d x p (c := c) (t := t) (by omega) b 10 0 (g + 1) 0 M h fr hc (by omega)
    obtain ⟨M2, s2, e2⟩ := ih (t + 1) g _ M1 (h.sm s1) (fr.tr s1.fr) hc (by omega) (by omega)
    refine ⟨M2, s1.tr s2, ?_⟩
    rw [lu_X12_probe_76, if_neg (show ¬ (40 : Int32) < nI t from nI_nlt (a := 40) (by omega) (by omega)), pb_s]
    rw [show zI 0 = (0 : Int32) from rfl, show nI 0 = (0 : Int32) from rfl] at e1
    rw [e1, pM_end (d + 10) g _ _ _ b _ _ M1 rfl]
    exact e2
theorem CT.nm0 (h : CT n xs N gv M nc nm) {c : Nat} (hc : c < nc) : ¬ nm = 0 := by
  have := h.1.2.2.1
  omega
theorem Q_probe (h : CT n xs N gv M nc nm) (hS : RS M nc k) (d : Nat) (c x : Int32) : QQ n xs N (d + 60) M 157 [.ref 16, .int c, .int x] 280 [.ref 60, .int c, .int x] := by
  have h4 := h.nc4
  have hN := h.nN
  unfold QQ
  rw [u_X11_probe]
  simp only [u_X12_probe]
  (rw [E_hasCook (d + 56) h.1, ra_I]; simp only [Option.bind_some])
  cases hk : ck nc c with
  | false =>
    refine ⟨-1, M, M, rfl, FR.rf, ?_, FR.rf⟩
    (rw [E_isCook (d + 57) h.1, ra_I]; simp only [Option.bind_some])
    rw [hk]
    rfl
  | true =>
    obtain ⟨c, hc, rfl⟩ := ck_t (by omega) hk
    rw [if_neg (show ¬ mb true = 0 by decide)]
    (rw [E_isStand (d + 57) M x, ra_I]; simp only [Option.bind_some])
    cases hx : wi 0 x 99 with
    | false =>
      refine ⟨-1, M, M, rfl, FR.rf, ?_, FR.rf⟩
      (rw [E_isCook (d + 57) h.1, ra_I]; simp only [Option.bind_some])
      rw [hk, if_neg (show ¬ mb true = 0 by decide)]
      (rw [E_in (d + 58) M x 0 99, ra_I]; simp only [Option.bind_some])
      rw [hx]
      rfl
    | true =>
      have h0 := h.nm0 hc
      rw [if_neg (show ¬ mb true = 0 by decide)]
      obtain ⟨M1, s1, e1⟩ := E_fyX (n := n) (xs := xs) (N := N) hS h FR.rf (d + 48)
      (rw [e1, ra_I]; simp only [Option.bind_some])
      have md : ∀ M2, CT n xs N gv M2 nc nm → FR M M2 → ∃ M3, SM M2 M3 ∧ ((mm_aI (mm_E n xs N (d + 59) 222 [.ref 60, .int (nI c)] M2)).bind fun p1 => if p1.1 = 0 then some (some (.int (-1)), p1.2) else (mm_aI (mm_E n xs N (d + 59) 179 [.int x, .int 0, .int 99] p1.2)).bind fun p2 => if p2.1 = 0 then some (some (.int (-1)), p2.2) else (mm_aI (mm_E n xs N (d + 59) 279 [.ref 60, .int 0] p2.2)).bind fun p3 => if p3.1 = -1 then some (some (.int (-1)), p3.2) else lp_X12_probe n xs N (d + 59) N 34 [some (.ref 60), some (.int (nI c)), some (.int x), some (.int 0), some (.int 0), none, none, none, none] [] p3.2) = some (some (.int (if fyS (fitP gv M k) 0 10 0 = 0 then -1 else (pb (pbV gv (fitP gv M k) (mm_I M 37 c) x) 1 40 (-1, 0)).1)), M3) := by
        intro M2 h2 fr2
        obtain ⟨M3, s3, e3⟩ := E_fitsM (n := n) (xs := xs) (N := N) hS h2 h0 fr2 (d + 47) 0
        (rw [E_isCook (d + 57) h2.1, ra_I]; simp only [Option.bind_some])
        rw [hk, if_neg (show ¬ mb true = 0 by decide)]
        (rw [E_in (d + 58) M2 x 0 99, ra_I]; simp only [Option.bind_some])
        rw [hx, if_neg (show ¬ mb true = 0 by decide)]
        (rw [e3, ra_I]; simp only [Option.bind_some])
        have fr3 := fr2.tr s3.fr
        simp only [fyS_0 (p := fitP gv M k) (j := 10) (by omega)]
        have hr := rsL_f0 (fitP gv M k) 10 0 (by omega)
        by_cases q : rsL (fitP gv M k) nI 0 10 0 0 = -1
        · rw [if_pos q, if_pos (fun i hi => hr.mp q i (by omega) (by omega))]
          exact ⟨M3, s3, rfl⟩
        · rw [if_neg q, if_neg (fun w => q (hr.mpr (fun i _ hi => w i (by omega))))]
          obtain ⟨g, hg⟩ : ∃ g, N = g + 10 + 1 := ⟨N - 11, by omega⟩
          obtain ⟨M4, s4, e4⟩ := L_pM1 (n := n) (xs := xs) (N := N) hS (d + 48) (nI c) x 10 0 g 0 M3 (h2.sm s3) fr3 (by omega)
          obtain ⟨M5, s5, e5⟩ := L_pM2 (n := n) (xs := xs) (N := N) (gv := gv) (d + 48) x (fitP gv M k) (c := c) 40 1 g (-1, 0) M4 ((h2.sm s3).sm s4) (fr3.tr s4.fr) hc (by omega) (by omega)
          refine ⟨M5, s3.tr (s4.tr s5), ?_⟩
          rw [← hg, show nI 0 = (0 : Int32) from rfl] at e4
          rw [show nI 1 = (1 : Int32) from rfl] at e5
          rw [e4, e5]
      by_cases q : fyS (fitP gv M k) 0 10 0 = 0
      · obtain ⟨M3, s3, e3⟩ := md M1 (h.sx s1) s1.fr
        rw [if_pos q] at e3
        refine ⟨-1, M1, M3, ?_, s1.fr, e3, s3.fr⟩
        rw [if_pos q]
      · obtain ⟨M2, s2, b2, e2⟩ := E_fill58 (n := n) (xs := xs) (N := N) (by omega) (d + 58) M1
        have h2 := (h.sx s1).mv s2.fr58
        have f2 := s1.fr.tr s2.fr58
        obtain ⟨M3, f3, e3⟩ := L_prX (n := n) (xs := xs) (N := N) (gv := gv) (d + 49) (c := c) (fitP gv M k) x (w := mm_I M 37 c) 40 0 N (-1, 0) M2 h2 hc (by rw [f2.I (show scr 37 = false by decide)]) (fun y hy _ => by rw [b2 y hy]; rfl) (by omega) (by omega)
        obtain ⟨M4, s4, e4⟩ := md M3 (h2.mv f3) (f2.tr f3)
        rw [if_neg q] at e4
        refine ⟨(pb (pbV gv (fitP gv M k) (mm_I M 37 c) x) 1 40 (-1, 0)).1, M3, M4, ?_, f2.tr f3, e4, s4.fr⟩
        rw [if_neg q]
        (rw [e2, ra_V]; simp only [Option.bind_some])
        exact e3
end PB
