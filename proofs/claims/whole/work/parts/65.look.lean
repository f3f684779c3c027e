/-! the tape is read: signs behind blanks, numbers -/
def cu (T : Nat → Int32) (s a : Nat) : Int32 := if a < s then T a else -1
def skF (T : Nat → Int32) : Nat → Nat → Nat
  | 0, a => a
  | f + 1, a => if T a = 32 then skF T f (a + 1) else a
theorem skF_s (T : Nat → Int32) (f a : Nat) : skF T (f + 1) a = if T a = 32 then skF T f (a + 1) else a := rfl
def sk (T : Nat → Int32) (s a : Nat) : Nat := skF T (s - a) a
theorem skF_ge (T : Nat → Int32) : ∀ (f a : Nat), a ≤ skF T f a ∧ skF T f a ≤ a + f
  | 0, a => ⟨Nat.le_refl _, Nat.le_refl _⟩
  | f + 1, a => by
    unfold skF
    split
    · have := skF_ge T f (a + 1)
      omega
    · omega
theorem sk_ge (T : Nat → Int32) (s a : Nat) : a ≤ sk T s a := (skF_ge T (s - a) a).1
theorem sk_le {T : Nat → Int32} {s a : Nat} (h : a ≤ s) : sk T s a ≤ s := by
  have := (skF_ge T (s - a) a).2
  unfold sk
  omega
theorem cu_in {T : Nat → Int32} {s a : Nat} (h : a < s) : cu T s a = T a := if_pos h
theorem cu_out {T : Nat → Int32} {s a : Nat} (h : s ≤ a) : cu T s a = -1 := if_neg (by omega)
/-- a sign that is none of the numbers below 0 is there -/
theorem cu_lt {T : Nat → Int32} {s a : Nat} {c : Int32} (h : cu T s a = c) (hc : c ≠ -1) : a < s := by
  apply Decidable.byContradiction
  intro q
  rw [cu_out (by omega)] at h
  exact hc h.symm
def XTp (M : mmM) (T : Nat → Int32) (s : Nat) : Prop := s ≤ 240 ∧ mm_I M 17 1 = nI s ∧ ∀ i, i < s → mm_I M 18 i = T i
def MTp (M : mmM) (T : Nat → Int32) (s : Nat) : Prop := s ≤ 240 ∧ mm_I M 60 2 = nI s ∧ ∀ i, i < s → mm_I M 61 i = T i
/-- only the class's place on the tape is another -/
def XT (M M' : mmM) (a : Nat) : Prop := M'.1 = M.1 ∧ M'.2.1 = M.2.1 ∧ M'.2.2.1 = M.2.2.1 ∧ mm_J M' = mm_J M ∧ M'.2.2.2.2.2 = M.2.2.2.2.2 ∧ (∀ b, b ≠ 17 → mm_I M' b = mm_I M b) ∧ (∀ q, q ≠ 2 → mm_I M' 17 q = mm_I M 17 q) ∧ mm_I M' 17 2 = nI a
/-- only the model's place on the tape is another -/
def MT (M M' : mmM) (a : Nat) : Prop := M'.1 = M.1 ∧ M'.2.1 = M.2.1 ∧ M'.2.2.1 = M.2.2.1 ∧ mm_J M' = mm_J M ∧ M'.2.2.2.2.2 = M.2.2.2.2.2 ∧ (∀ b, b ≠ 60 → mm_I M' b = mm_I M b) ∧ (∀ q, q ≠ 3 → mm_I M' 60 q = mm_I M 60 q) ∧ mm_I M' 60 3 = nI a
section LK
variable {n : Nat} {xs : Nat → Int32} {N : Nat} {M M' M1 M2 : mmM} {T : Nat → Int32} {s a b : Nat}
theorem XT.tr (h : XT M M1 a) (g : XT M1 M2 b) : XT M M2 b := ⟨g.1.trans h.1, g.2.1.trans h.2.1, g.2.2.1.trans h.2.2.1, g.2.2.2.1.trans h.2.2.2.1, g.2.2.2.2.1.trans h.2.2.2.2.1, fun c hc => (g.2.2.2.2.2.1 c hc).trans (h.2.2.2.2.2.1 c hc), fun c hc => (g.2.2.2.2.2.2.1 c hc).trans (h.2.2.2.2.2.2.1 c hc), g.2.2.2.2.2.2.2⟩
theorem MT.tr (h : MT M M1 a) (g : MT M1 M2 b) : MT M M2 b := ⟨g.1.trans h.1, g.2.1.trans h.2.1, g.2.2.1.trans h.2.2.1, g.2.2.2.1.trans h.2.2.2.1, g.2.2.2.2.1.trans h.2.2.2.2.1, fun c hc => (g.2.2.2.2.2.1 c hc).trans (h.2.2.2.2.2.1 c hc), fun c hc => (g.2.2.2.2.2.2.1 c hc).trans (h.2.2.2.2.2.2.1 c hc), g.2.2.2.2.2.2.2⟩
theorem XT.rf (h : mm_I M 17 2 = nI a) : XT M M a := ⟨rfl, rfl, rfl, rfl, rfl, fun _ _ => rfl, fun _ _ => rfl, h⟩
theorem MT.rf (h : mm_I M 60 3 = nI a) : MT M M a := ⟨rfl, rfl, rfl, rfl, rfl, fun _ _ => rfl, fun _ _ => rfl, h⟩
theorem XT.w : XT M (mm_wI M 17 2 (nI a)) a := ⟨rfl, rfl, rfl, rfl, rfl, fun _ h => I_wn h, fun q hq => by rw [I_s, if_neg hq], by rw [I_s, if_pos rfl]⟩
theorem MT.w : MT M (mm_wI M 60 3 (nI a)) a := ⟨rfl, rfl, rfl, rfl, rfl, fun _ h => I_wn h, fun q hq => by rw [I_s, if_neg hq], by rw [I_s, if_pos rfl]⟩
theorem XT.I (h : XT M M1 a) {c : Nat} (hc : c ≠ 17) : mm_I M1 c = mm_I M c := h.2.2.2.2.2.1 c hc
theorem MT.I (h : MT M M1 a) {c : Nat} (hc : c ≠ 60) : mm_I M1 c = mm_I M c := h.2.2.2.2.2.1 c hc
theorem XT.pl (h : XT M M1 a) : mm_I M1 17 2 = nI a := h.2.2.2.2.2.2.2
theorem MT.pl (h : MT M M1 a) : mm_I M1 60 3 = nI a := h.2.2.2.2.2.2.2
theorem MT.q (h : MT M M1 a) {c : Nat} (hc : c ≠ 3) : mm_I M1 60 c = mm_I M 60 c := h.2.2.2.2.2.2.1 c hc
theorem XTp.xt (h : XTp M T s) (g : XT M M1 a) : XTp M1 T s := ⟨h.1, by rw [g.2.2.2.2.2.2.1 1 (by decide)]; exact h.2.1, by rw [g.I (by decide)]; exact h.2.2⟩
theorem MTp.mt (h : MTp M T s) (g : MT M M1 a) : MTp M1 T s := ⟨h.1, by rw [g.q (by decide)]; exact h.2.1, by rw [g.I (by decide)]; exact h.2.2⟩
theorem L_lkX (d : Nat) : ∀ (j a f : Nat) (M : mmM), a + j = s → j < f → XTp M T s → mm_I M 17 2 = nI a → ∃ M1, lp_X9_look n xs N d f 0 [some (.ref 17)] [] M = some (some (.int (cu T s (skF T j a))), M1) ∧ XT M M1 (skF T j a) := by
  intro j
  induction j with
  | zero =>
    intro a f M haj hf hT ha
    obtain ⟨f, rfl⟩ : ∃ g, f = g + 1 := ⟨f - 1, by omega⟩
    have hs := hT.1
    have e : cu T s (skF T 0 a) = -1 := cu_out (by show s ≤ a; omega)
    refine ⟨M, ?_, XT.rf ha⟩
    rw [lu_X9_look_0, ha, hT.2.1, if_neg (nI_pos (by omega)), if_pos (nI_le (by omega) (by omega)), if_neg (nI_pos (by omega)), if_pos (nI_le (by omega) (by omega)), e]
  | succ j ih =>
    intro a f M haj hf hT ha
    obtain ⟨f, rfl⟩ : ∃ g, f = g + 1 := ⟨f - 1, by omega⟩
    have hs := hT.1
    have eT := hT.2.2 a (by omega)
    by_cases q : T a = 32
    · obtain ⟨M1, e1, x1⟩ := ih (a + 1) f (mm_wI M 17 2 (nI (a + 1))) (by omega) (by omega) (hT.xt XT.w) XT.w.pl
      refine ⟨M1, ?_, ?_⟩
      · rw [lu_X9_look_0, ha, hT.2.1, if_neg (nI_pos (by omega)), if_neg (nI_ge (by omega) (by omega)), if_neg (show ¬ Int32.ofNat 240 ≤ nI a from nI_ge (b := 240) (by omega) (by omega)), mm_inb_nI (show a < 240 by omega) (by omega), cond_true, nI_clamp (by omega), eT, if_pos q, nI_1]
        rw [e1]
        rw [skF_s, if_pos q]
      · rw [skF_s, if_pos q]
        exact XT.w.tr x1
    · have es : skF T (j + 1) a = a := by rw [skF_s, if_neg q]
      refine ⟨M, ?_, by rw [es]; exact XT.rf ha⟩
      rw [es, cu_in (show a < s by omega), lu_X9_look_0, ha, hT.2.1, if_neg (nI_pos (by omega)), if_neg (nI_ge (by omega) (by omega)), if_neg (show ¬ Int32.ofNat 240 ≤ nI a from nI_ge (b := 240) (by omega) (by omega)), mm_inb_nI (show a < 240 by omega) (by omega), cond_true, nI_clamp (by omega), eT, if_neg q, if_neg (nI_pos (by omega)), if_neg (nI_ge (by omega) (by omega)), if_neg (show ¬ Int32.ofNat 240 ≤ nI a from nI_ge (b := 240) (by omega) (by omega)), cond_true]
theorem E_lookX (hN : 1000 ≤ N) (d : Nat) (hT : XTp M T s) (ha : mm_I M 17 2 = nI a) (h : a ≤ s) : ∃ M1, mm_E n xs N (d + 1) 76 [.ref 17] M = some (some (.int (cu T s (sk T s a))), M1) ∧ XT M M1 (sk T s a) := by
  have hs := hT.1
  obtain ⟨M1, e1, x1⟩ := L_lkX (n := n) (xs := xs) (N := N) d (s - a) a (N + 1) M (by omega) (by omega) hT ha
  refine ⟨M1, ?_, x1⟩
  rw [← show _ = some (some (Value.int (cu T s (sk T s a))), M1) from e1, u_X9_look, lu_X9_look_0]
theorem E_here (d : Nat) (hT : MTp M T s) (ha : mm_I M 60 3 = nI a) (h : a ≤ 1000000) : mm_E n xs N (d + 1) 186 [.ref 60] M = some (some (.int (cu T s a)), M) := by
  have hs := hT.1
  rw [u_X12_here, hT.2.1, ha]
  by_cases q : s ≤ a
  · rw [if_pos (nI_le q (by omega)), cu_out q]
  · rw [if_neg (nI_ge (by omega) (by omega)), mm_inb_nI (show a < 240 by omega) (by omega), cond_true, nI_clamp (by omega), hT.2.2 a (by omega), cu_in (by omega)]
theorem L_lkM (d : Nat) : ∀ (j a f : Nat) (M : mmM), a + j = s → j < f → MTp M T s → mm_I M 60 3 = nI a → ∃ M1, lp_X12_look n xs N (d + 1) f 0 [some (.ref 60)] [] M = some (some (.int (cu T s (skF T j a))), M1) ∧ MT M M1 (skF T j a) := by
  intro j
  induction j with
  | zero =>
    intro a f M haj hf hT ha
    obtain ⟨f, rfl⟩ : ∃ g, f = g + 1 := ⟨f - 1, by omega⟩
    have hs := hT.1
    have e : cu T s a = -1 := cu_out (by omega)
    refine ⟨M, ?_, MT.rf ha⟩
    rw [lu_X12_look_0, E_here d hT ha (by omega), ra_I, Option.bind_some]
    dsimp only
    rw [e, if_neg (by decide), E_here d hT ha (by omega), ra_I, Option.bind_some]
    rfl
  | succ j ih =>
    intro a f M haj hf hT ha
    obtain ⟨f, rfl⟩ : ∃ g, f = g + 1 := ⟨f - 1, by omega⟩
    have hs := hT.1
    have ec : cu T s a = T a := cu_in (by omega)
    rw [lu_X12_look_0, E_here d hT ha (by omega), ra_I, Option.bind_some]
    dsimp only
    by_cases q : T a = 32
    · obtain ⟨M1, e1, x1⟩ := ih (a + 1) f (mm_wI M 60 3 (nI (a + 1))) (by omega) (by omega) (hT.mt MT.w) MT.w.pl
      refine ⟨M1, ?_, ?_⟩
      · rw [ec, if_pos q, ha, nI_1, e1]
        rw [skF_s, if_pos q]
      · rw [skF_s, if_pos q]
        exact MT.w.tr x1
    · have es : skF T (j + 1) a = a := by rw [skF_s, if_neg q]
      refine ⟨M, ?_, by rw [es]; exact MT.rf ha⟩
      rw [ec, if_neg q, E_here d hT ha (by omega), ra_I, Option.bind_some, es]
theorem E_lookM (hN : 1000 ≤ N) (d : Nat) (hT : MTp M T s) (ha : mm_I M 60 3 = nI a) (h : a ≤ s) : ∃ M1, mm_E n xs N (d + 2) 187 [.ref 60] M = some (some (.int (cu T s (sk T s a))), M1) ∧ MT M M1 (sk T s a) := by
  have hs := hT.1
  obtain ⟨M1, e1, x1⟩ := L_lkM (n := n) (xs := xs) (N := N) d (s - a) a (N + 1) M (by omega) (by omega) hT ha
  refine ⟨M1, ?_, x1⟩
  rw [← show _ = some (some (Value.int (cu T s (sk T s a))), M1) from e1, u_X12_look, lu_X12_look_0]
/-- a sign is taken, if it is this one -/
theorem E_takeS (hN : 1000 ≤ N) (d : Nat) (hT : XTp M T s) (ha : mm_I M 17 2 = nI a) (h : a ≤ s) (c : Int32) : ∃ M1, mm_E n xs N (d + 2) 79 [.ref 17, .int c] M = some (some (.int (mb (decide (cu T s (sk T s a) = c)))), M1) ∧ XT M M1 (if cu T s (sk T s a) = c then sk T s a + 1 else sk T s a) := by
  obtain ⟨M1, e1, x1⟩ := E_lookX (n := n) (xs := xs) (N := N) hN d hT ha h
  rw [u_X9_take, e1, ra_I, Option.bind_some]
  dsimp only
  by_cases q : cu T s (sk T s a) = c
  · rw [if_pos q, if_pos q, decide_eq_true q, x1.pl, nI_1]
    exact ⟨_, rfl, x1.tr XT.w⟩
  · rw [if_neg q, if_neg q, decide_eq_false q]
    exact ⟨M1, rfl, x1⟩
def dg (c : Int32) : Bool := wi 48 c 57
theorem E_dgX (d : Nat) (M : mmM) (c : Int32) : mm_E n xs N (d + 1) 82 [.int c] M = some (some (.int (mb (dg c))), M) := by
  rw [u_X9_isDigit]
  unfold dg wi
  by_cases h1 : c < 48
  · have h2 : ¬ (48 : Int32) ≤ c := i_nle.mpr h1
    rw [if_pos h1, decide_eq_false h2]; rfl
  · have h2 : (48 : Int32) ≤ c := i_nlt.mp h1
    by_cases h3 : 57 < c
    · have h4 : ¬ c ≤ 57 := i_nle.mpr h3
      rw [if_neg h1, if_pos h3, decide_eq_true h2, decide_eq_false h4]; rfl
    · have h4 : c ≤ 57 := i_nlt.mp h3
      rw [if_neg h1, if_neg h3, decide_eq_true h2, decide_eq_true h4]; rfl
theorem E_dgM (d : Nat) (M : mmM) (c : Int32) : mm_E n xs N (d + 1) 189 [.int c] M = some (some (.int (mb (dg c))), M) := by
  rw [u_X12_isDigit]
  unfold dg wi
  by_cases h1 : c < 48
  · have h2 : ¬ (48 : Int32) ≤ c := i_nle.mpr h1
    rw [if_pos h1, decide_eq_false h2]; rfl
  · have h2 : (48 : Int32) ≤ c := i_nlt.mp h1
    by_cases h3 : 57 < c
    · have h4 : ¬ c ≤ 57 := i_nle.mpr h3
      rw [if_neg h1, if_pos h3, decide_eq_true h2, decide_eq_false h4]; rfl
    · have h4 : c ≤ 57 := i_nlt.mp h3
      rw [if_neg h1, if_neg h3, decide_eq_true h2, decide_eq_true h4]; rfl
theorem dg_n {c : Int32} (h : dg c = true) : ∃ k : Nat, k ≤ 9 ∧ c = nI (48 + k) := by
  unfold dg wi at h
  rw [Bool.and_eq_true, decide_eq_true_eq, decide_eq_true_eq] at h
  have h1 := Int32.le_iff_toInt_le.mp h.1
  have h2 := Int32.le_iff_toInt_le.mp h.2
  rw [show (48 : Int32).toInt = 48 by decide] at h1
  rw [show (57 : Int32).toInt = 57 by decide] at h2
  obtain ⟨k, hk, e⟩ := bd_nI (h := 57) (x := c) (by unfold bd; omega)
  rw [e, nI_toInt (by omega)] at h1
  exact ⟨k - 48, by omega, by rw [e, show 48 + (k - 48) = k by omega]⟩
theorem dg_m1 : dg (-1) = false := by decide
theorem E_dgH (d : Nat) (hT : XTp M T s) (ha : mm_I M 17 2 = nI a) (h : a ≤ 1000000) : mm_E n xs N (d + 1) 81 [.ref 17] M = some (some (.int (mb (dg (cu T s a)))), M) := by
  have hs := hT.1
  rw [u_X9_isDigitHere, ha, hT.2.1, if_neg (nI_pos (by omega))]
  by_cases q : s ≤ a
  · rw [if_pos (nI_le q (by omega)), cu_out q, dg_m1]; rfl
  · rw [if_neg (nI_ge (by omega) (by omega)), if_neg (show ¬ Int32.ofNat 240 ≤ nI a from nI_ge (b := 240) (by omega) (by omega)), mm_inb_nI (show a < 240 by omega) (by omega), cond_true, nI_clamp (by omega), hT.2.2 a (by omega), cu_in (by omega), cond_true]
    unfold dg wi
    by_cases h1 : T a < 48
    · have h2 : ¬ (48 : Int32) ≤ T a := i_nle.mpr h1
      rw [if_pos h1, decide_eq_false h2]; rfl
    · have h2 : (48 : Int32) ≤ T a := i_nlt.mp h1
      by_cases h3 : 57 < T a
      · have h4 : ¬ T a ≤ 57 := i_nle.mpr h3
        rw [if_neg h1, if_pos h3, decide_eq_true h2, decide_eq_false h4]; rfl
      · have h4 : T a ≤ 57 := i_nlt.mp h3
        rw [if_neg h1, if_neg h3, decide_eq_true h2, decide_eq_true h4]; rfl
/-- a number of at most so many digits: where it ends, what it is -/
def nmF (T : Nat → Int32) (s : Nat) : Nat → Nat → Nat → Nat × Nat
  | 0, a, v => (a, v)
  | f + 1, a, v => if dg (cu T s a) = true then nmF T s f (a + 1) (10 * v + ((cu T s a).toNatClampNeg - 48)) else (a, v)
theorem nmF_ge (T : Nat → Int32) (s : Nat) : ∀ (f a v : Nat), a ≤ s → a ≤ (nmF T s f a v).1 ∧ (nmF T s f a v).1 ≤ s
  | 0, a, v, h => ⟨Nat.le_refl _, h⟩
  | f + 1, a, v, h => by
    unfold nmF
    split
    · next q =>
      have hlt : a < s := by
        apply Decidable.byContradiction
        intro w
        rw [cu_out (by omega), dg_m1] at q
        cases q
      have := nmF_ge T s f (a + 1) (10 * v + ((cu T s a).toNatClampNeg - 48)) (by omega)
      omega
    · omega
theorem nmF_v (T : Nat → Int32) (s : Nat) : ∀ (f a v : Nat), (nmF T s f a v).2 < (v + 1) * 10 ^ f
  | 0, a, v => by unfold nmF; omega
  | f + 1, a, v => by
    unfold nmF
    have hp : 0 < 10 ^ f := Nat.pow_pos (by omega)
    split
    · next q =>
      obtain ⟨k, hk, e⟩ := dg_n q
      have ek : (cu T s a).toNatClampNeg - 48 = k := by rw [e, nI_clamp (by omega)]; omega
      have := nmF_v T s f (a + 1) (10 * v + ((cu T s a).toNatClampNeg - 48))
      rw [ek] at this ⊢
      refine Nat.lt_of_lt_of_le this ?_
      rw [Nat.pow_succ, show (v + 1) * (10 ^ f * 10) = ((v + 1) * 10) * 10 ^ f by rw [Nat.mul_comm (10 ^ f) 10, Nat.mul_assoc]]
      exact Nat.mul_le_mul_right _ (by omega)
    · show v < (v + 1) * (10 ^ f * 10)
      have h1 : 1 ≤ 10 ^ f * 10 := by omega
      calc v < v + 1 := by omega
        _ = (v + 1) * 1 := by omega
        _ ≤ (v + 1) * (10 ^ f * 10) := Nat.mul_le_mul_left _ h1
/-- the class's number; v so far, NONE if there is no digit yet -/
theorem L_nmX (d D : Nat) (hD : D ≤ 4) : ∀ (j i a f : Nat) (y : Int32) (v : Nat) (M : mmM), i + j = D → j < f → XTp M T s → mm_I M 17 2 = nI a → a ≤ s → (y = -1 ∧ v = 0 ∨ y = nI v ∧ v < 10 ^ i) → ∃ M1, lp_X9_number n xs N (d + 1) f 4 [some (.ref 17), some (.int (nI D)), some (.int y), some (.int (nI i))] [] M = some (some (.int (if dg (cu T s (nmF T s j a v).1) = true then -1 else if (nmF T s j a v).1 = a then y else nI (nmF T s j a v).2)), M1) ∧ XT M M1 (nmF T s j a v).1 := by
  intro j
  induction j with
  | zero =>
    intro i a f y v M hij hf hT ha has hy
    obtain ⟨f, rfl⟩ : ∃ g, f = g + 1 := ⟨f - 1, by omega⟩
    have hs := hT.1
    refine ⟨M, ?_, XT.rf ha⟩
    rw [lu_X9_number_4, if_pos (nI_le (by omega) (by omega)), E_dgH d hT ha (by omega), ra_I, Option.bind_some]
    dsimp only
    show (if mb (dg (cu T s a)) = 0 then _ else _) = some (some (Value.int (if dg (cu T s a) = true then -1 else if a = a then y else nI v)), M)
    cases dg (cu T s a) with
    | true => rfl
    | false => rw [if_pos (show mb false = 0 by decide), if_neg (show ¬ false = true by decide), if_pos rfl]
  | succ j ih =>
    intro i a f y v M hij hf hT ha has hy
    obtain ⟨f, rfl⟩ : ∃ g, f = g + 1 := ⟨f - 1, by omega⟩
    have hs := hT.1
    rw [lu_X9_number_4, if_neg (nI_ge (show i < D by omega) (by omega)), E_dgH d hT ha (by omega), ra_I, Option.bind_some]
    dsimp only
    cases q : dg (cu T s a) with
    | false =>
      have e : nmF T s (j + 1) a v = (a, v) := by unfold nmF; rw [if_neg (by rw [q]; decide)]
      refine ⟨M, ?_, by rw [e]; exact XT.rf ha⟩
      rw [e, if_pos (show mb false = 0 by decide), E_dgH d hT ha (by omega), ra_I, Option.bind_some]
      dsimp only
      rw [q, if_pos (show mb false = 0 by decide), if_neg (by decide), if_pos rfl]
    | true =>
      have hlt : a < s := by
        apply Decidable.byContradiction
        intro w
        rw [cu_out (by omega), dg_m1] at q
        cases q
      obtain ⟨k, hk, ek⟩ := dg_n q
      have ek2 : (cu T s a).toNatClampNeg - 48 = k := by rw [ek, nI_clamp (by omega)]; omega
      have eT : mm_I M 18 a = nI (48 + k) := by rw [hT.2.2 a hlt, ← cu_in (T := T) hlt]; exact ek
      have hv : i_max 0 y = nI v := by
        rcases hy with ⟨h1, h2⟩ | ⟨h1, h2⟩
        · rw [h1, h2]; decide
        · rw [h1]
          have h3 : 10 ^ i ≤ 10 ^ 4 := Nat.pow_le_pow_right (by omega) (by omega)
          have := i_max0 (a := v) (b := 0) (by omega) (by omega)
          rwa [nI_0, Int32.sub_zero, Nat.sub_zero] at this
      have hvb : 10 * v + k < 10 ^ (i + 1) := by
        rw [Nat.pow_succ]
        rcases hy with ⟨h1, h2⟩ | ⟨-, h2⟩
        · have : 0 < 10 ^ i := Nat.pow_pos (by omega)
          omega
        · omega
      have e2 : (10 : Int32) * nI v + nI (48 + k) - 48 = nI (10 * v + k) := by
        rw [show (10 : Int32) = nI 10 from rfl, pk_mul, nI_add, show (48 : Int32) = nI 48 from rfl, pk_sub (by omega), show 10 * v + (48 + k) - 48 = 10 * v + k by omega]
      have e : nmF T s (j + 1) a v = nmF T s j (a + 1) (10 * v + k) := by
        show (if dg (cu T s a) = true then nmF T s j (a + 1) (10 * v + ((cu T s a).toNatClampNeg - 48)) else (a, v)) = _
        rw [if_pos q, ek2]
      obtain ⟨M1, e1, x1⟩ := ih (i + 1) (a + 1) f (nI (10 * v + k)) (10 * v + k) (mm_wI M 17 2 (nI (a + 1))) (by omega) (by omega) (hT.xt XT.w) XT.w.pl (by omega) (Or.inr ⟨rfl, hvb⟩)
      refine ⟨M1, ?_, by rw [e]; exact XT.w.tr x1⟩
      have g := nmF_ge T s j (a + 1) (10 * v + k) (by omega)
      rw [if_neg (show ¬ mb true = 0 by decide), E_max d M 0 y, hv, ra_I, Option.bind_some]
      dsimp only
      rw [ha, mm_inb_nI (show a < 240 by omega) (by omega), cond_true, nI_clamp (by omega), eT, e2, nI_1, nI_1, e1, e]
      by_cases w : dg (cu T s (nmF T s j (a + 1) (10 * v + k)).1) = true
      · rw [if_pos w, if_pos w]
      · rw [if_neg w, if_neg w, if_neg (show ¬ (nmF T s j (a + 1) (10 * v + k)).1 = a by omega)]
        by_cases w2 : (nmF T s j (a + 1) (10 * v + k)).1 = a + 1
        · rw [if_pos w2]
          have : (nmF T s j (a + 1) (10 * v + k)).2 = 10 * v + k := by
            cases j with
            | zero => rfl
            | succ j =>
              show (if dg (cu T s (a + 1)) = true then nmF T s j (a + 1 + 1) _ else (a + 1, 10 * v + k)).2 = _
              by_cases w3 : dg (cu T s (a + 1)) = true
              · exfalso
                have e5 : nmF T s (j + 1) (a + 1) (10 * v + k) = nmF T s j (a + 1 + 1) (10 * (10 * v + k) + ((cu T s (a + 1)).toNatClampNeg - 48)) := by
                  show (if dg (cu T s (a + 1)) = true then _ else _) = _
                  rw [if_pos w3]
                have hlt2 : a + 1 < s := by
                  apply Decidable.byContradiction
                  intro w4
                  rw [cu_out (by omega), dg_m1] at w3
                  cases w3
                have := (nmF_ge T s j (a + 1 + 1) (10 * (10 * v + k) + ((cu T s (a + 1)).toNatClampNeg - 48)) (by omega)).1
                rw [e5] at w2
                omega
              · rw [if_neg w3]
          rw [this]
        · rw [if_neg w2]
theorem E_nmX (hN : 1000 ≤ N) (d D : Nat) (hD : D ≤ 4) (h0 : 0 < D) (hT : XTp M T s) (ha : mm_I M 17 2 = nI a) (h : a ≤ s) (hg : dg (cu T s a) = true) : ∃ M1, mm_E n xs N (d + 2) 80 [.ref 17, .int (nI D)] M = some (some (.int (if dg (cu T s (nmF T s D a 0).1) = true then -1 else nI (nmF T s D a 0).2)), M1) ∧ XT M M1 (nmF T s D a 0).1 := by
  obtain ⟨M1, e1, x1⟩ := L_nmX (n := n) (xs := xs) (N := N) d D hD D 0 a N (-1) 0 M (by omega) (by omega) hT ha h (Or.inl ⟨rfl, rfl⟩)
  refine ⟨M1, ?_, x1⟩
  have hlt : a < s := by
    apply Decidable.byContradiction
    intro w
    rw [cu_out (by omega), dg_m1] at hg
    cases hg
  have hne : ¬ (nmF T s D a 0).1 = a := by
    obtain ⟨D, rfl⟩ : ∃ g, D = g + 1 := ⟨D - 1, by omega⟩
    have e5 : nmF T s (D + 1) a 0 = nmF T s D (a + 1) (10 * 0 + ((cu T s a).toNatClampNeg - 48)) := by
      show (if dg (cu T s a) = true then _ else _) = _
      rw [if_pos hg]
    have := (nmF_ge T s D (a + 1) (10 * 0 + ((cu T s a).toNatClampNeg - 48)) (by omega)).1
    rw [e5]
    omega
  rw [if_neg hne] at e1
  rw [u_X9_number]
  exact e1
/-- wrong here, for the model -/
theorem E_bad (d : Nat) (h4 : mm_I M 60 4 = -1) (ha : mm_I M 60 3 = nI a) : mm_E n xs N (d + 1) 188 [.ref 60] M = some (none, mm_wI M 60 4 (nI a)) := by
  rw [u_X12_bad, if_pos h4, ha]
theorem E_bad2 (d : Nat) (h4 : ¬ mm_I M 60 4 = -1) : mm_E n xs N (d + 1) 188 [.ref 60] M = some (none, mm_wI M 60 4 (mm_I M 60 4)) := by
  rw [u_X12_bad, if_neg h4]
end LK
