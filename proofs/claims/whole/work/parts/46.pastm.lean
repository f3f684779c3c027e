/-! the model keeps, takes back, makes an image and goes back to it -/
def MP (M : mmM) (z : Nat) (rs : Nat → Nat → Int32) : Prop := mm_I M 60 32 = nI z ∧ ∀ k, k < z → ∀ x, x < 198 → mm_I M 79 (198 * (z - 1 - k) + x) = rs k x
/-- two rows are others, one of them only at one place -/
def S2 (a b q : Nat) (M M' : mmM) : Prop := M'.1 = M.1 ∧ M'.2.1 = M.2.1 ∧ M'.2.2.1 = M.2.2.1 ∧ M'.2.2.2.2.1 = M.2.2.2.2.1 ∧ M'.2.2.2.2.2 = M.2.2.2.2.2 ∧ (∀ c, c ≠ a → c ≠ b → mm_I M' c = mm_I M c) ∧ ∀ k, k ≠ q → mm_I M' b k = mm_I M b k
section PM
variable {n : Nat} {xs : Nat → Int32} {N : Nat} {M : mmM} {z : Nat} {rs : Nat → Nat → Int32}
theorem k13_out (d f : Nat) (M : mmM) {y : Nat} (h : 7920 ≤ y) (h2 : y < 2 ^ 31) : lp_X12_keep n xs N d (f + 1) 13 [some (.ref 60), some (.int (nI y))] [] M = lp_X12_keep n xs N d f 54 [some (.ref 60), some (.int 0)] [] (mm_wI M 60 32 (mm_I M 60 32 - 1)) := by
  rw [lu_X12_keep_13, if_pos (show (7920 : Int32) ≤ nI y from nI_le (a := 7920) h h2)]
theorem k13_in (d f : Nat) (M : mmM) {y : Nat} (h : y < 7920) (h1 : 198 ≤ y) : lp_X12_keep n xs N d (f + 1) 13 [some (.ref 60), some (.int (nI y))] [] M = lp_X12_keep n xs N d f 13 [some (.ref 60), some (.int (nI (y + 1)))] [] (mm_wI M 79 (y - 198) (mm_I M 79 y)) := by
  rw [lu_X12_keep_13, if_neg (show ¬ (7920 : Int32) ≤ nI y from nI_ge (b := 7920) h (by omega)), show (198 : Int32) = nI 198 from rfl, pk_sub h1, nI_1]
  simp only [mm_inb_nI h (by omega), mm_inb_nI (show y - 198 < 7920 by omega) (by omega), mm_ble (show 16 ≤ 79 by omega), Bool.and_self, cond_true, nI_clamp (show y < 2 ^ 31 by omega), nI_clamp (show y - 198 < 2 ^ 31 by omega)]
theorem L_k13 (d f : Nat) : ∀ (j y : Nat) (M : mmM), y + j = 7920 → 198 ≤ y → ∃ M1, S1 79 M M1 ∧ (∀ x, y - 198 ≤ x → x < 7722 → mm_I M1 79 x = mm_I M 79 (x + 198)) ∧ (∀ x, x < y - 198 → mm_I M1 79 x = mm_I M 79 x) ∧ lp_X12_keep n xs N d (f + j) 13 [some (.ref 60), some (.int (nI y))] [] M = lp_X12_keep n xs N d f 13 [some (.ref 60), some (.int (nI 7920))] [] M1 := by
  intro j
  induction j with
  | zero =>
    intro y M hyj hy
    refine ⟨M, S1.rf, fun x h1 h2 => by omega, fun _ _ => rfl, ?_⟩
    rw [Nat.add_zero, show y = 7920 by omega]
  | succ j ih =>
    intro y M hyj hy
    obtain ⟨M1, s1, a1, a2, e1⟩ := ih (y + 1) (mm_wI M 79 (y - 198) (mm_I M 79 y)) (by omega) (by omega)
    refine ⟨M1, S1.wI.tr s1, fun x h1 h2 => ?_, fun x hx => ?_, ?_⟩
    · by_cases q : x = y - 198
      · rw [a2 x (by omega), I_w, if_pos rfl, if_pos q, q, show y - 198 + 198 = y by omega]
      · rw [a1 x (by omega) h2, I_w, if_pos rfl, if_neg (by omega)]
    · rw [a2 x (by omega), I_w, if_pos rfl, if_neg (by omega)]
    · rw [← Nat.add_assoc f j 1, k13_in d (f + j) M (by omega) hy]
      exact e1
theorem k54_out (d f : Nat) (M : mmM) {y : Nat} (h : 198 ≤ y) (h2 : y < 2 ^ 31) : lp_X12_keep n xs N d (f + 1) 54 [some (.ref 60), some (.int (nI y))] [] M = some (none, mm_wI M 60 32 (mm_I M 60 32 + 1)) := by
  rw [lu_X12_keep_54, if_pos (show (198 : Int32) ≤ nI y from nI_le (a := 198) h h2)]
theorem k54_in (d f : Nat) {M : mmM} {y a : Nat} (ha : a < 40) (e : mm_I M 60 32 = nI a) (h : y < 198) : lp_X12_keep n xs N d (f + 1) 54 [some (.ref 60), some (.int (nI y))] [] M = lp_X12_keep n xs N d f 54 [some (.ref 60), some (.int (nI (y + 1)))] [] (mm_wI M 79 (198 * a + y) (mm_I M 77 y)) := by
  have e2 : (198 : Int32) * nI a + nI y = nI (198 * a + y) := by rw [show (198 : Int32) = nI 198 from rfl, pk_mul, nI_add]
  rw [lu_X12_keep_54, if_neg (show ¬ (198 : Int32) ≤ nI y from nI_ge (b := 198) h (by omega)), e, e2, nI_1]
  simp only [mm_inb_nI h (by omega), mm_inb_nI (show 198 * a + y < 7920 by omega) (by omega), mm_ble (show 16 ≤ 79 by omega), Bool.and_self, cond_true, nI_clamp (show y < 2 ^ 31 by omega), nI_clamp (show 198 * a + y < 2 ^ 31 by omega)]
theorem L_k54 (d f a : Nat) (ha : a < 40) : ∀ (j y : Nat) (M : mmM), y + j = 198 → mm_I M 60 32 = nI a → ∃ M1, S1 79 M M1 ∧ (∀ x, y ≤ x → x < 198 → mm_I M1 79 (198 * a + x) = mm_I M 77 x) ∧ (∀ x, x < 198 * a + y → mm_I M1 79 x = mm_I M 79 x) ∧ lp_X12_keep n xs N d (f + j + 1) 54 [some (.ref 60), some (.int (nI y))] [] M = some (none, mm_wI M1 60 32 (nI (a + 1))) := by
  intro j
  induction j with
  | zero =>
    intro y M hyj e
    refine ⟨M, S1.rf, fun x h1 h2 => by omega, fun _ _ => rfl, ?_⟩
    rw [Nat.add_zero, k54_out d f M (by omega) (by omega), e, nI_1]
  | succ j ih =>
    intro y M hyj e
    obtain ⟨M1, s1, a1, a2, e1⟩ := ih (y + 1) (mm_wI M 79 (198 * a + y) (mm_I M 77 y)) (by omega) (by rw [I_wn (by decide)]; exact e)
    refine ⟨M1, S1.wI.tr s1, fun x h1 h2 => ?_, fun x hx => ?_, ?_⟩
    · by_cases q : x = y
      · subst q
        rw [a2 _ (by omega), I_w, if_pos rfl, if_pos rfl]
      · rw [a1 x (by omega) h2, I_wn (by decide)]
    · rw [a2 x (by omega), I_w, if_pos rfl, if_neg (by omega)]
    · rw [← Nat.add_assoc f j 1, k54_in d (f + j + 1) ha e (by omega)]
      exact e1
theorem E_keepM (hN : 10000 ≤ N) (d : Nat) (hz : z ≤ 40) (hM : MP M z rs) : ∃ M1, mm_E n xs N (d + 1) 241 [.ref 60] M = some (none, M1) ∧ S2 79 60 32 M M1 ∧ MP M1 (min 40 (z + 1)) (cns (mm_I M 77) rs) := by
  obtain ⟨m1, m2⟩ := hM
  rw [u_X12_keep, m1]
  by_cases q : z = 40
  · subst q
    rw [if_pos (show nI 40 = (40 : Int32) from rfl)]
    obtain ⟨f, hf⟩ : ∃ f, N = f + 198 + 1 + 1 + 7722 := ⟨N - 7922, by omega⟩
    obtain ⟨M1, s1, a1, a2, e1⟩ := L_k13 (n := n) (xs := xs) (N := N) d (f + 198 + 1 + 1) 7722 198 M (by omega) (by omega)
    have m1' : mm_I (mm_wI M1 60 32 (nI 39)) 60 32 = nI 39 := by rw [I_w, if_pos rfl, if_pos rfl]
    obtain ⟨M2, s2, b1, b2, e2⟩ := L_k54 (n := n) (xs := xs) (N := N) d f 39 (by omega) 198 0 (mm_wI M1 60 32 (nI 39)) (by omega) m1'
    refine ⟨mm_wI M2 60 32 (nI 40), ?_, ⟨s2.1.trans s1.1, s2.2.1.trans s1.2.1, s2.2.2.1.trans s1.2.2.1, s2.2.2.2.1.trans s1.2.2.2.1, s2.2.2.2.2.1.trans s1.2.2.2.2.1, fun c h1 h2 => ?_, fun k hk => ?_⟩, ?_, fun k hk x hx => ?_⟩
    · rw [← hf, show nI 198 = (198 : Int32) from rfl] at e1
      rw [show nI 0 = (0 : Int32) from rfl] at e2
      rw [e1, k13_out d (f + 198 + 1) M1 (by omega) (by omega), s1.I (show 60 ≠ 79 by decide), m1, show nI 40 - 1 = nI 39 from nI_pred 39, e2]
    · rw [I_wn h2, s2.I h1, I_wn h2, s1.I h1]
    · rw [I_w, if_pos rfl, if_neg hk, s2.I (by decide), I_w, if_pos rfl, if_neg hk, s1.I (by decide)]
    · rw [I_w, if_pos rfl, if_pos rfl]
      rfl
    · rw [I_wn (by decide)]
      cases k with
      | zero =>
        rw [show min 40 (40 + 1) - 1 - 0 = 39 by omega, b1 x (by omega) hx, I_wn (by decide), s1.I (by decide), cns_0]
      | succ k =>
        rw [show min 40 (40 + 1) - 1 - (k + 1) = 38 - k by omega, b2 _ (by omega), I_wn (by decide), a1 _ (by omega) (by omega), cns_s]
        have := m2 k (by omega) x hx
        rw [← this, show 198 * (40 - 1 - k) + x = 198 * (38 - k) + x + 198 by omega]
  · rw [if_neg (show ¬ nI z = 40 from fun w => q ((nI_eq (by omega) (by omega)).mp (w : nI z = nI 40)))]
    obtain ⟨f, hf⟩ : ∃ f, N = f + 198 + 1 := ⟨N - 199, by omega⟩
    obtain ⟨M2, s2, b1, b2, e2⟩ := L_k54 (n := n) (xs := xs) (N := N) d f z (by omega) 198 0 M (by omega) m1
    refine ⟨mm_wI M2 60 32 (nI (z + 1)), ?_, ⟨s2.1, s2.2.1, s2.2.2.1, s2.2.2.2.1, s2.2.2.2.2.1, fun c h1 h2 => ?_, fun k hk => ?_⟩, ?_, fun k hk x hx => ?_⟩
    · rw [← hf, show nI 0 = (0 : Int32) from rfl] at e2
      exact e2
    · rw [I_wn h2, s2.I h1]
    · rw [I_w, if_pos rfl, if_neg hk, s2.I (by decide)]
    · rw [I_w, if_pos rfl, if_pos rfl, show min 40 (z + 1) = z + 1 by omega]
    · rw [I_wn (by decide)]
      cases k with
      | zero =>
        rw [show min 40 (z + 1) - 1 - 0 = z by omega, b1 x (by omega) hx, cns_0]
      | succ k =>
        rw [show min 40 (z + 1) - 1 - (k + 1) = z - 1 - k by omega, b2 _ (by omega), cns_s]
        exact m2 k (by omega) x hx
/-- taken back -/
theorem un_in (d f : Nat) {M : mmM} {y a : Nat} (ha : a < 40) (e : mm_I M 60 32 = nI a) (h : y < 198) : lp_X12_undo n xs N d (f + 1) 21 [some (.ref 60), some (.int (nI y))] [] M = lp_X12_undo n xs N d f 21 [some (.ref 60), some (.int (nI (y + 1)))] [] (mm_wI M 77 y (mm_I M 79 (198 * a + y))) := by
  have e2 : (198 : Int32) * nI a + nI y = nI (198 * a + y) := by rw [show (198 : Int32) = nI 198 from rfl, pk_mul, nI_add]
  rw [lu_X12_undo_21, if_neg (show ¬ (198 : Int32) ≤ nI y from nI_ge (b := 198) h (by omega)), e, e2, nI_1]
  simp only [mm_inb_nI h (by omega), mm_inb_nI (show 198 * a + y < 7920 by omega) (by omega), mm_ble (show 16 ≤ 77 by omega), Bool.and_self, cond_true, nI_clamp (show y < 2 ^ 31 by omega), nI_clamp (show 198 * a + y < 2 ^ 31 by omega)]
theorem L_un (d f a : Nat) (ha : a < 40) : ∀ (j y : Nat) (M : mmM), y + j = 198 → mm_I M 60 32 = nI a → ∃ M1, S1 77 M M1 ∧ (∀ x, y ≤ x → x < 198 → mm_I M1 77 x = mm_I M 79 (198 * a + x)) ∧ (∀ x, x < y → mm_I M1 77 x = mm_I M 77 x) ∧ lp_X12_undo n xs N d (f + j + 1) 21 [some (.ref 60), some (.int (nI y))] [] M = some (some (.int (nI a)), M1) := by
  intro j
  induction j with
  | zero =>
    intro y M hyj e
    refine ⟨M, S1.rf, fun x h1 h2 => by omega, fun _ _ => rfl, ?_⟩
    rw [Nat.add_zero, lu_X12_undo_21, if_pos (show (198 : Int32) ≤ nI y from nI_le (a := 198) (by omega) (by omega)), e]
  | succ j ih =>
    intro y M hyj e
    obtain ⟨M1, s1, a1, a2, e1⟩ := ih (y + 1) (mm_wI M 77 y (mm_I M 79 (198 * a + y))) (by omega) (by rw [I_wn (by decide)]; exact e)
    refine ⟨M1, S1.wI.tr s1, fun x h1 h2 => ?_, fun x hx => ?_, ?_⟩
    · by_cases q : x = y
      · subst q
        rw [a2 _ (by omega), I_w, if_pos rfl, if_pos rfl]
      · rw [a1 x (by omega) h2, I_wn (by decide)]
    · rw [a2 x (by omega), I_w, if_pos rfl, if_neg (by omega)]
    · rw [← Nat.add_assoc f j 1, un_in d (f + j + 1) ha e (by omega)]
      exact e1
theorem E_undoM (hN : 10000 ≤ N) (d : Nat) (hz : z ≤ 40) (h0 : 0 < z) (hM : MP M z rs) : ∃ M1, mm_E n xs N (d + 1) 259 [.ref 60] M = some (some (.int (nI (z - 1))), M1) ∧ S2 77 60 32 M M1 ∧ (∀ x, x < 198 → mm_I M1 77 x = rs 0 x) ∧ MP M1 (z - 1) (fun k => rs (k + 1)) := by
  obtain ⟨m1, m2⟩ := hM
  rw [u_X12_undo, m1, if_neg (nI_ne0 h0 (by omega)), nI_m1 (by omega)]
  obtain ⟨f, hf⟩ : ∃ f, N = f + 198 + 1 := ⟨N - 199, by omega⟩
  have m1' : mm_I (mm_wI M 60 32 (nI (z - 1))) 60 32 = nI (z - 1) := by rw [I_w, if_pos rfl, if_pos rfl]
  obtain ⟨M2, s2, b1, b2, e2⟩ := L_un (n := n) (xs := xs) (N := N) d f (z - 1) (by omega) 198 0 (mm_wI M 60 32 (nI (z - 1))) (by omega) m1'
  refine ⟨M2, ?_, ⟨s2.1, s2.2.1, s2.2.2.1, s2.2.2.2.1, s2.2.2.2.2.1, fun c h1 h2 => ?_, fun k hk => ?_⟩, fun x hx => ?_, ?_, fun k hk x hx => ?_⟩
  · rw [← hf, show nI 0 = (0 : Int32) from rfl] at e2
    exact e2
  · rw [s2.I h1, I_wn h2]
  · rw [s2.I (by decide), I_w, if_pos rfl, if_neg hk]
  · rw [b1 x (by omega) hx, I_wn (by decide)]
    exact m2 0 h0 x hx
  · rw [s2.I (by decide)]
    exact m1'
  · rw [s2.I (by decide), I_wn (by decide), show z - 1 - 1 - k = z - 1 - (k + 1) by omega]
    exact m2 (k + 1) (by omega) x hx
/-- the image -/
theorem im_in (d f : Nat) {M : mmM} {y : Nat} (h : y < 198) : lp_X12_image n xs N d (f + 1) 11 [some (.ref 60), some (.int (nI y))] [] M = lp_X12_image n xs N d f 11 [some (.ref 60), some (.int (nI (y + 1)))] [] (mm_wI M 85 y (mm_I M 77 y)) := by
  rw [lu_X12_image_11, if_neg (show ¬ (198 : Int32) ≤ nI y from nI_ge (b := 198) h (by omega)), nI_1]
  simp only [mm_inb_nI h (by omega), mm_ble (show 16 ≤ 85 by omega), Bool.and_self, cond_true, nI_clamp (show y < 2 ^ 31 by omega)]
theorem L_im (d f : Nat) : ∀ (j y : Nat) (M : mmM), y + j = 198 → ∃ M1, S1 85 M M1 ∧ (∀ x, y ≤ x → x < 198 → mm_I M1 85 x = mm_I M 77 x) ∧ (∀ x, x < y → mm_I M1 85 x = mm_I M 85 x) ∧ lp_X12_image n xs N d (f + j + 1) 11 [some (.ref 60), some (.int (nI y))] [] M = some (some (.int (mm_I M 77 16)), mm_wI M1 60 45 1) := by
  intro j
  induction j with
  | zero =>
    intro y M hyj
    refine ⟨M, S1.rf, fun x h1 h2 => by omega, fun _ _ => rfl, ?_⟩
    rw [Nat.add_zero, lu_X12_image_11, if_pos (show (198 : Int32) ≤ nI y from nI_le (a := 198) (by omega) (by omega))]
  | succ j ih =>
    intro y M hyj
    obtain ⟨M1, s1, a1, a2, e1⟩ := ih (y + 1) (mm_wI M 85 y (mm_I M 77 y)) (by omega)
    refine ⟨M1, S1.wI.tr s1, fun x h1 h2 => ?_, fun x hx => ?_, ?_⟩
    · by_cases q : x = y
      · subst q
        rw [a2 _ (by omega), I_w, if_pos rfl, if_pos rfl]
      · rw [a1 x (by omega) h2, I_wn (by decide)]
    · rw [a2 x (by omega), I_w, if_pos rfl, if_neg (by omega)]
    · rw [← Nat.add_assoc f j 1, im_in d (f + j + 1) (by omega)]
      exact e1
theorem E_imageM (hN : 10000 ≤ N) (d : Nat) (h0 : ¬ mm_I M 60 26 = 0) : ∃ M1, mm_E n xs N (d + 1) 295 [.ref 60] M = some (some (.int (mm_I M 77 16)), M1) ∧ S2 85 60 45 M M1 ∧ (∀ x, x < 198 → mm_I M1 85 x = mm_I M 77 x) ∧ mm_I M1 60 45 = 1 := by
  rw [u_X12_image, if_neg h0]
  obtain ⟨f, hf⟩ : ∃ f, N = f + 198 + 1 := ⟨N - 199, by omega⟩
  obtain ⟨M2, s2, b1, b2, e2⟩ := L_im (n := n) (xs := xs) (N := N) d f 198 0 M (by omega)
  refine ⟨mm_wI M2 60 45 1, ?_, ⟨s2.1, s2.2.1, s2.2.2.1, s2.2.2.2.1, s2.2.2.2.2.1, fun c h1 h2 => ?_, fun k hk => ?_⟩, fun x hx => ?_, ?_⟩
  · rw [← hf, show nI 0 = (0 : Int32) from rfl] at e2
    exact e2
  · rw [I_wn h2, s2.I h1]
  · rw [I_w, if_pos rfl, if_neg hk, s2.I (by decide)]
  · rw [I_wn (by decide)]
    exact b1 x (by omega) hx
  · rw [I_w, if_pos rfl, if_pos rfl]
theorem bk_in (d f : Nat) {M : mmM} {y : Nat} (h : y < 198) : lp_X12_back n xs N d (f + 1) 11 [some (.ref 60), some (.int (nI y))] [] M = lp_X12_back n xs N d f 11 [some (.ref 60), some (.int (nI (y + 1)))] [] (mm_wI M 77 y (mm_I M 85 y)) := by
  rw [lu_X12_back_11, if_neg (show ¬ (198 : Int32) ≤ nI y from nI_ge (b := 198) h (by omega)), nI_1]
  simp only [mm_inb_nI h (by omega), mm_ble (show 16 ≤ 77 by omega), Bool.and_self, cond_true, nI_clamp (show y < 2 ^ 31 by omega)]
theorem L_bk (d f : Nat) : ∀ (j y : Nat) (M : mmM), y + j = 198 → ∃ M1, S1 77 M M1 ∧ (∀ x, y ≤ x → x < 198 → mm_I M1 77 x = mm_I M 85 x) ∧ (∀ x, x < y → mm_I M1 77 x = mm_I M 77 x) ∧ lp_X12_back n xs N d (f + j + 1) 11 [some (.ref 60), some (.int (nI y))] [] M = some (some (.int (mm_I M1 77 16)), mm_wI M1 60 32 0) := by
  intro j
  induction j with
  | zero =>
    intro y M hyj
    refine ⟨M, S1.rf, fun x h1 h2 => by omega, fun _ _ => rfl, ?_⟩
    rw [Nat.add_zero, lu_X12_back_11, if_pos (show (198 : Int32) ≤ nI y from nI_le (a := 198) (by omega) (by omega))]
  | succ j ih =>
    intro y M hyj
    obtain ⟨M1, s1, a1, a2, e1⟩ := ih (y + 1) (mm_wI M 77 y (mm_I M 85 y)) (by omega)
    refine ⟨M1, S1.wI.tr s1, fun x h1 h2 => ?_, fun x hx => ?_, ?_⟩
    · by_cases q : x = y
      · subst q
        rw [a2 _ (by omega), I_w, if_pos rfl, if_pos rfl]
      · rw [a1 x (by omega) h2, I_wn (by decide)]
    · rw [a2 x (by omega), I_w, if_pos rfl, if_neg (by omega)]
    · rw [← Nat.add_assoc f j 1, bk_in d (f + j + 1) (by omega)]
      exact e1
theorem E_backM (hN : 10000 ≤ N) (d : Nat) (h0 : ¬ mm_I M 60 45 = 0) : ∃ M1, mm_E n xs N (d + 1) 296 [.ref 60] M = some (some (.int (mm_I M 85 16)), M1) ∧ S2 77 60 32 M M1 ∧ (∀ x, x < 198 → mm_I M1 77 x = mm_I M 85 x) ∧ MP M1 0 rs := by
  rw [u_X12_back, if_neg h0]
  obtain ⟨f, hf⟩ : ∃ f, N = f + 198 + 1 := ⟨N - 199, by omega⟩
  obtain ⟨M2, s2, b1, b2, e2⟩ := L_bk (n := n) (xs := xs) (N := N) d f 198 0 M (by omega)
  refine ⟨mm_wI M2 60 32 0, ?_, ⟨s2.1, s2.2.1, s2.2.2.1, s2.2.2.2.1, s2.2.2.2.2.1, fun c h1 h2 => ?_, fun k hk => ?_⟩, fun x hx => ?_, ?_, fun k hk => by omega⟩
  · rw [← hf, show nI 0 = (0 : Int32) from rfl, b1 16 (by omega) (by omega)] at e2
    exact e2
  · rw [I_wn h2, s2.I h1]
  · rw [I_w, if_pos rfl, if_neg hk, s2.I (by decide)]
  · rw [I_wn (by decide)]
    exact b1 x (by omega) hx
  · rw [I_w, if_pos rfl, if_pos rfl, nI_0]
end PM
