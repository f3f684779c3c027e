/-! truth values, bounds, the plain helpers of both -/
def mb (b : Bool) : Int32 := cond b 1 0
theorem mb_t : mb true = 1 := rfl
theorem mb_f : mb false = 0 := rfl
theorem mb_0 (b : Bool) : (mb b = 0) = (b = false) := by cases b <;> simp [mb]
theorem mb_1 (b : Bool) : (mb b = 1) = (b = true) := by cases b <;> simp [mb]
theorem ra_I (x : Int32) (M : mmM) : mm_aI (some (some (.int x), M)) = some (x, M) := rfl
theorem ra_J (x : Int64) (M : mmM) : mm_aJ (some (some (.long x), M)) = some (x, M) := rfl
theorem ra_R (x : Nat) (M : mmM) : mm_aR (some (some (.ref x), M)) = some (x, M) := rfl
theorem ra_V (M : mmM) : mm_aV (some (none, M)) = some M := rfl
theorem rb_z {M : mmM} (b : Bool) : (if mb b = 0 then some (some (Value.int 0), M) else if mb b = 1 then some (some (Value.int 1), M) else none) = some (some (.int (mb b)), M) := by cases b <;> rfl
theorem i_nlt {a b : Int32} : ¬ a < b ↔ b ≤ a := Int32.not_lt
theorem i_nle {a b : Int32} : ¬ a ≤ b ↔ b < a := Int32.not_le
theorem mm_inb_nI {i n : Nat} (h : i < n) (hn : n < 2 ^ 31) : mm_inb (nI i) n = true := by
  unfold mm_inb
  have h0 : ¬ nI i < 0 := nI_pos (by omega)
  rw [nI_clamp (by omega)]
  simp only [h0, decide_false, cond_false]
  exact Nat.blt_eq.mpr h
theorem mm_ble {a b : Nat} (h : a ≤ b) : Nat.ble a b = true := Nat.ble_eq.mpr h
/-- c is one of n -/
def ck (n : Nat) (c : Int32) : Bool := decide (0 ≤ c) && decide (c ≤ nI n - 1)
theorem ck_t {n : Nat} {c : Int32} (hn : n < 2 ^ 31) (h : ck n c = true) : ∃ j : Nat, j < n ∧ c = nI j := by
  unfold ck at h
  simp only [Bool.and_eq_true, decide_eq_true_eq] at h
  obtain ⟨h1, h2⟩ := h
  obtain ⟨j, hj, rfl⟩ := nI_of (x := c) (i_nlt.mpr h1)
  cases n with
  | zero =>
    exfalso
    rw [nI_0] at h2
    have := (Int32.le_iff_toInt_le.mp h2)
    rw [nI_toInt hj] at this
    have e : (0 - 1 : Int32).toInt = -1 := by decide
    omega
  | succ n =>
    rw [nI_pred] at h2
    refine ⟨j, ?_, rfl⟩
    have := (nI_leI hj (by omega)).mp h2
    omega
theorem ck_nI {n j : Nat} (hn : n < 2 ^ 31) (h : j < n) : ck n (nI j) = true := by
  unfold ck
  cases n with
  | zero => omega
  | succ n =>
    rw [nI_pred]
    simp only [Bool.and_eq_true, decide_eq_true_eq]
    exact ⟨nI_pos' (by omega), nI_le (by omega) (by omega)⟩
/-- within two bounds -/
def wi (a x b : Int32) : Bool := decide (a ≤ x) && decide (x ≤ b)
def i_max (a b : Int32) : Int32 := if a < b then b else a
def i_min (a b : Int32) : Int32 := if b < a then b else a
def j_max (a b : Int64) : Int64 := if a < b then b else a
def j_min (a b : Int64) : Int64 := if b < a then b else a
def i_abs (a : Int32) : Int32 := if 0 ≤ a then a else -a
section HB
variable {n : Nat} {xs : Nat → Int32} {N : Nat}
theorem E_isWithin (d : Nat) (M : mmM) (a x b : Int32) : mm_E n xs N (d + 1) 176 [.int a, .int x, .int b] M = some (some (.int (mb (wi a x b))), M) := by
  rw [u_X11_isWithin]
  unfold wi
  by_cases h1 : x < a
  · have h2 : ¬ a ≤ x := i_nle.mpr h1
    simp [h1, h2, mb]
  · have h2 : a ≤ x := i_nlt.mp h1
    by_cases h3 : b < x
    · have h4 : ¬ x ≤ b := i_nle.mpr h3
      simp [h1, h2, h3, h4, mb]
    · have h4 : x ≤ b := i_nlt.mp h3
      simp [h1, h2, h3, h4, mb]
theorem E_in (d : Nat) (M : mmM) (x a b : Int32) : mm_E n xs N (d + 1) 179 [.int x, .int a, .int b] M = some (some (.int (mb (wi a x b))), M) := by
  rw [u_X12_in]
  unfold wi
  by_cases h1 : x < a
  · have h2 : ¬ a ≤ x := i_nle.mpr h1
    simp [h1, h2, mb]
  · have h2 : a ≤ x := i_nlt.mp h1
    by_cases h3 : b < x
    · have h4 : ¬ x ≤ b := i_nle.mpr h3
      simp [h1, h2, h3, h4, mb]
    · have h4 : x ≤ b := i_nlt.mp h3
      simp [h1, h2, h3, h4, mb]
theorem E_isStand (d : Nat) (M : mmM) (x : Int32) : mm_E n xs N (d + 2) 177 [.int x] M = some (some (.int (mb (wi 0 x 99))), M) := by
  rw [u_X11_isStand, E_isWithin, ra_I]
  exact rb_z _
theorem E_max (d : Nat) (M : mmM) (a b : Int32) : mm_E n xs N (d + 1) 302 [.int a, .int b] M = some (some (.int (i_max a b)), M) := by
  rw [u_J9_max_7cf53]; unfold i_max; split <;> rfl
theorem E_min (d : Nat) (M : mmM) (a b : Int32) : mm_E n xs N (d + 1) 304 [.int a, .int b] M = some (some (.int (i_min a b)), M) := by
  rw [u_J9_min_7cf53]; unfold i_min; split <;> rfl
theorem E_abs (d : Nat) (M : mmM) (a : Int32) : mm_E n xs N (d + 1) 301 [.int a] M = some (some (.int (i_abs a)), M) := by
  rw [u_J9_abs_0f7a4]; unfold i_abs; split <;> rfl
theorem E_within (d : Nat) (M : mmM) (a x b : Int32) : mm_E n xs N (d + 2) 178 [.int a, .int x, .int b] M = some (some (.int (i_max a (i_min b x))), M) := by
  rw [u_X11_within, E_min, ra_I, Option.bind_some, E_max, ra_I]; rfl
theorem E_sunk (d : Nat) (M : mmM) (a b : Int32) : mm_E n xs N (d + 2) 122 [.int a, .int b] M = some (some (.int (i_max 0 (a - b))), M) := by
  rw [u_X11_sunk, E_max, ra_I]; rfl
theorem E_held (d : Nat) (M : mmM) (x : Int32) : mm_E n xs N (d + 2) 225 [.int x] M = some (some (.int (i_max 0 (i_min 99 x))), M) := by
  rw [u_X12_held, E_min, ra_I, Option.bind_some, E_max, ra_I]; rfl
theorem E_isKind (d : Nat) (M : mmM) (x : Int32) : mm_E n xs N (d + 1) 95 [.int x] M = some (some (.int (mb (wi 0 x 2))), M) := by
  rw [u_X10_isKind]
  unfold wi
  by_cases h1 : x < 0
  · have h2 : ¬ 0 ≤ x := i_nle.mpr h1
    simp [h1, h2, mb]
  · have h2 : 0 ≤ x := i_nlt.mp h1
    by_cases h3 : 2 < x
    · have h4 : ¬ x ≤ 2 := i_nle.mpr h3
      simp [h1, h2, h3, h4, mb]
    · have h4 : x ≤ 2 := i_nlt.mp h3
      simp [h1, h2, h3, h4, mb]
theorem E_howMany (d : Nat) (M : mmM) (k : Nat) (hk : k < 3) : mm_E n xs N (d + 2) 86 [.ref 32, .int (nI k)] M = some (some (.int (mm_I M 34 k)), M) := by
  rw [u_X10_howMany_32, E_isKind, ra_I]
  have h1 : wi 0 (nI k) 2 = true := by
    rcases (show k = 0 ∨ k = 1 ∨ k = 2 by omega) with rfl | rfl | rfl <;> decide
  simp only [Option.bind_some, h1, mb_t, mm_inb_nI hk (by omega), cond_true, nI_clamp (show k < 2 ^ 31 by omega)]
  rfl
theorem E_wristOf (d : Nat) (M : mmM) (j : Nat) (hj : j < 4) : mm_E n xs N (d + 1) 5 [.ref 35, .int (nI j)] M = some (some (.int (mm_I M 37 j)), M) := by
  rw [u_X0_wristOf_35]
  have h1 : ¬ nI j < 0 := nI_pos (by omega)
  have h2 : ¬ Int32.ofNat 4 ≤ nI j := nI_ge hj (by omega)
  simp only [h1, h2, if_false, mm_inb_nI hj (by omega), cond_true, nI_clamp (show j < 2 ^ 31 by omega)]
theorem E_tiredOf (d : Nat) (M : mmM) (j : Nat) (hj : j < 4) : mm_E n xs N (d + 1) 4 [.ref 35, .int (nI j)] M = some (some (.int (mm_I M 36 j)), M) := by
  rw [u_X0_tiredOf_35]
  have h1 : ¬ nI j < 0 := nI_pos (by omega)
  have h2 : ¬ Int32.ofNat 4 ≤ nI j := nI_ge hj (by omega)
  simp only [h1, h2, if_false, mm_inb_nI hj (by omega), cond_true, nI_clamp (show j < 2 ^ 31 by omega)]
/-- places of the told values -/
def pl_o (k : Nat) : Nat := if k = 0 then 0 else if k = 1 then 4 else 12
def pl_w (k : Nat) : Nat := if k = 1 then 2 else 4
def pl_m (k : Nat) : Nat := if k = 0 then 1 else if k = 1 then 4 else 7
theorem E_placeOf (d : Nat) (M : mmM) (k i w : Nat) (hk : k < 3) (hi : i < pl_m k) (hw : w < pl_w k) : mm_E n xs N (d + 2) 97 [.int (nI k), .int (nI i), .int (nI w)] M = some (some (.int (nI (pl_o k + i * pl_w k + w))), M) := by
  rw [u_X10_placeOf, E_isKind, ra_I]
  have h1 : wi 0 (nI k) 2 = true := by
    rcases (show k = 0 ∨ k = 1 ∨ k = 2 by omega) with rfl | rfl | rfl <;> decide
  have hi7 : i < 7 := by unfold pl_m at hi; split at hi <;> (try split at hi) <;> omega
  have hw4 : w < 4 := by unfold pl_w at hw; split at hw <;> omega
  have a1 : ¬ nI i < 0 := nI_pos (by omega)
  have a2 : ¬ nI w < 0 := nI_pos (by omega)
  have t1 : mm_tb 1 k = nI (pl_m k) := by rcases (show k = 0 ∨ k = 1 ∨ k = 2 by omega) with rfl | rfl | rfl <;> rfl
  have t0 : mm_tb 0 k = nI (pl_w k) := by rcases (show k = 0 ∨ k = 1 ∨ k = 2 by omega) with rfl | rfl | rfl <;> rfl
  have t6 : mm_tb 6 k = nI (pl_o k) := by rcases (show k = 0 ∨ k = 1 ∨ k = 2 by omega) with rfl | rfl | rfl <;> rfl
  have hm7 : pl_m k < 8 := by unfold pl_m; split <;> (try split) <;> omega
  have hw5 : pl_w k < 5 := by unfold pl_w; split <;> omega
  have a3 : ¬ nI (pl_m k) ≤ nI i := nI_ge hi (by omega)
  have a4 : nI w < nI (pl_w k) := nI_lt hw (by omega)
  simp only [Option.bind_some, h1, mb_t, mm_inb_nI hk (by omega), cond_true, nI_clamp (show k < 2 ^ 31 by omega), a1, a2, if_false, t1, t0, t6, a3, a4, if_true, pk_mul, nI_add, show (1 : Int32) = 0 ↔ False by decide]
theorem E_item (d : Nat) (M : mmM) (k i w : Nat) (hk : k < 3) (hi : i < pl_m k) (hw : w < pl_w k) : mm_E n xs N (d + 3) 94 [.ref 32, .int (nI k), .int (nI i), .int (nI w)] M = some (some (.int (mm_I M 33 (pl_o k + i * pl_w k + w))), M) := by
  rw [u_X10_item_32, E_placeOf _ _ k i w hk hi hw, ra_I]
  have hb : pl_o k + i * pl_w k + w < 40 := by
    rcases (show k = 0 ∨ k = 1 ∨ k = 2 by omega) with rfl | rfl | rfl <;> simp [pl_o, pl_w, pl_m] at * <;> omega
  have h1 : ¬ nI (pl_o k + i * pl_w k + w) = -1 := by
    intro h
    have := nI_pos (n := pl_o k + i * pl_w k + w) (by omega)
    rw [h] at this
    exact this (by decide)
  simp only [Option.bind_some, h1, if_false, mm_inb_nI hb (by omega), cond_true, nI_clamp (show pl_o k + i * pl_w k + w < 2 ^ 31 by omega)]
theorem E_rule (d : Nat) (M : mmM) (w : Nat) (hw : w < 4) : mm_E n xs N (d + 3) 94 [.ref 32, .int 0, .int 0, .int (nI w)] M = some (some (.int (mm_I M 33 w)), M) := by
  have h := E_item (n := n) (xs := xs) (N := N) d M 0 0 w (by omega) (by decide) (by simpa [pl_w] using hw)
  simpa [pl_o, pl_w, nI_0] using h
theorem E_cookI (d : Nat) (M : mmM) (c w : Nat) (hc : c < 4) (hw : w < 2) : mm_E n xs N (d + 3) 94 [.ref 32, .int 1, .int (nI c), .int (nI w)] M = some (some (.int (mm_I M 33 (4 + c * 2 + w))), M) :=
  E_item (n := n) (xs := xs) (N := N) d M 1 c w (by omega) (by simpa [pl_m] using hc) (by simpa [pl_w] using hw)
theorem E_minI (d : Nat) (M : mmM) (m w : Nat) (hm : m < 7) (hw : w < 4) : mm_E n xs N (d + 3) 94 [.ref 32, .int 2, .int (nI m), .int (nI w)] M = some (some (.int (mm_I M 33 (12 + m * 4 + w))), M) :=
  E_item (n := n) (xs := xs) (N := N) d M 2 m w (by omega) (by simpa [pl_m] using hm) (by simpa [pl_w] using hw)
theorem E_of (d : Nat) (M : mmM) (m w : Nat) (hm : m < 7) (hw : w < 4) : mm_E n xs N (d + 1) 221 [.ref 60, .int (nI m), .int (nI w)] M = some (some (.int (mm_I M 76 (4 * m + w))), M) := by
  rw [u_X12_of]
  have e : (4 : Int32) * nI m + nI w = nI (4 * m + w) := by rw [show (4 : Int32) = nI 4 from rfl, pk_mul, nI_add]
  rw [e]
  simp only [mm_inb_nI (show 4 * m + w < 28 by omega) (by omega), cond_true, nI_clamp (show 4 * m + w < 2 ^ 31 by omega)]
theorem E_leftOf (d : Nat) (M : mmM) (c : Nat) (hc : c < 4) : mm_E n xs N (d + 1) 224 [.ref 60, .int (nI c)] M = some (some (.int (mm_I M 75 (2 * c + 1) - mm_I M 77 (4 + c))), M) := by
  rw [u_X12_leftOf]
  have e : (2 : Int32) * nI c + 1 = nI (2 * c + 1) := by rw [show (2 : Int32) = nI 2 from rfl, pk_mul, nI_1]
  have e2 : (4 : Int32) + nI c = nI (4 + c) := by rw [show (4 : Int32) = nI 4 from rfl, nI_add]
  rw [e, e2]
  simp only [mm_inb_nI (show 2 * c + 1 < 8 by omega) (by omega), mm_inb_nI (show 4 + c < 198 by omega) (by omega), cond_true, nI_clamp (show 2 * c + 1 < 2 ^ 31 by omega), nI_clamp (show 4 + c < 2 ^ 31 by omega)]
end HB
