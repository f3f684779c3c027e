/-! the model's now put aside and taken back; how it stands behind strokes -/
theorem bd_nI {x : Int32} {h : Nat} (hx : bd 0 h x) : ∃ k : Nat, k ≤ h ∧ x = nI k := by
  unfold bd at hx
  have h0 : (0 : Int32).toInt = 0 := by decide
  obtain ⟨j, hj, rfl⟩ := nI_of (x := x) (fun q => by have := Int32.lt_iff_toInt_lt.mp q; omega)
  rw [nI_toInt hj] at hx
  exact ⟨j, by omega, rfl⟩
theorem nI_bd {k h : Nat} (hk : k ≤ h) (hh : h < 2 ^ 31) : bd 0 h (nI k) := by
  unfold bd
  rw [nI_toInt (by omega)]
  omega
theorem i_min_nI {a b : Nat} (ha : a < 2 ^ 31) (hb : b < 2 ^ 31) : i_min (nI a) (nI b) = nI (min a b) := by
  unfold i_min
  by_cases h : nI b < nI a
  · rw [if_pos h]
    have := (nI_ltI hb ha).mp h
    rw [Nat.min_eq_right (by omega)]
  · rw [if_neg h]
    have : ¬ b < a := fun q => h ((nI_ltI hb ha).mpr q)
    rw [Nat.min_eq_left (by omega)]
/-- only one row is another -/
def S1 (a : Nat) (M M' : mmM) : Prop := M'.1 = M.1 ∧ M'.2.1 = M.2.1 ∧ M'.2.2.1 = M.2.2.1 ∧ M'.2.2.2.2.1 = M.2.2.2.2.1 ∧ M'.2.2.2.2.2 = M.2.2.2.2.2 ∧ ∀ b, b ≠ a → mm_I M' b = mm_I M b
section AS
variable {n : Nat} {xs : Nat → Int32} {N : Nat}
theorem L_putAside (d q : Nat) (hq : q < 10) : ∀ (j i f : Nat) (M : mmM), i + j = 17 → j < f → ∃ M1, lp_X12_putAside n xs N d f 2 [some (.ref 60), some (.int (nI q)), some (.int (nI i))] [] M = some (none, M1) ∧ S1 80 M M1 ∧ (∀ k, i ≤ k → k < 17 → mm_I M1 80 (17 * q + k) = mm_I M 77 k) ∧ ∀ x, (∀ k, i ≤ k → k < 17 → x ≠ 17 * q + k) → mm_I M1 80 x = mm_I M 80 x := by
  intro j
  induction j with
  | zero =>
    intro i f M hij hf
    obtain ⟨f, rfl⟩ : ∃ g, f = g + 1 := ⟨f - 1, by omega⟩
    refine ⟨M, ?_, ⟨rfl, rfl, rfl, rfl, rfl, fun _ _ => rfl⟩, fun k h1 h2 => by omega, fun _ _ => rfl⟩
    rw [lu_X12_putAside_2, show (17 : Int32) = nI 17 from rfl, if_pos (nI_le (by omega) (by omega))]
  | succ j ih =>
    intro i f M hij hf
    obtain ⟨f, rfl⟩ : ∃ g, f = g + 1 := ⟨f - 1, by omega⟩
    have e : (17 : Int32) * nI q + nI i = nI (17 * q + i) := by rw [show (17 : Int32) = nI 17 from rfl, pk_mul, nI_add]
    obtain ⟨M1, e1, s1, a1, a2⟩ := ih (i + 1) f (mm_wI M 80 (17 * q + i) (mm_I M 77 i)) (by omega) (by omega)
    refine ⟨M1, ?_, ⟨s1.1, s1.2.1, s1.2.2.1, s1.2.2.2.1, s1.2.2.2.2.1, fun b hb => by rw [s1.2.2.2.2.2 b hb, I_wn hb]⟩, fun k h1 h2 => ?_, fun x hx => ?_⟩
    · rw [lu_X12_putAside_2, e, if_neg (by rw [show (17 : Int32) = nI 17 from rfl]; exact nI_ge (by omega) (by omega)), nI_1]
      simp only [mm_inb_nI (show i < 198 by omega) (by omega), mm_inb_nI (show 17 * q + i < 170 by omega) (by omega), mm_ble (show 16 ≤ 80 by omega), Bool.and_self, cond_true, nI_clamp (show i < 2 ^ 31 by omega), nI_clamp (show 17 * q + i < 2 ^ 31 by omega)]
      exact e1
    · by_cases hk : k = i
      · subst hk
        rw [a2 _ (fun k2 g1 g2 => by omega), I_w, if_pos rfl, if_pos rfl]
      · rw [a1 k (by omega) h2, I_w, if_neg (by decide)]
    · rw [a2 x (fun k g1 g2 => hx k (by omega) g2), I_w, if_pos rfl, if_neg (hx i (Nat.le_refl _) (by omega))]
theorem E_putAside (hN : 100 ≤ N) (d q : Nat) (hq : q < 10) (M : mmM) : ∃ M1, mm_E n xs N (d + 1) 261 [.ref 60, .int (nI q)] M = some (none, M1) ∧ S1 80 M M1 ∧ (∀ k, k < 17 → mm_I M1 80 (17 * q + k) = mm_I M 77 k) ∧ ∀ x, (x < 17 * q ∨ 17 * q + 17 ≤ x) → mm_I M1 80 x = mm_I M 80 x := by
  obtain ⟨M1, e1, s1, a1, a2⟩ := L_putAside (n := n) (xs := xs) (N := N) d q hq 17 0 N M (by omega) (by omega)
  refine ⟨M1, ?_, s1, fun k hk => a1 k (by omega) hk, fun x hx => a2 x (fun k g1 g2 => by omega)⟩
  rw [u_X12_putAside]
  exact e1
theorem L_takeBack (d q : Nat) (hq : q < 10) : ∀ (j i f : Nat) (M : mmM), i + j = 17 → j < f → ∃ M1, lp_X12_takeBack n xs N d f 2 [some (.ref 60), some (.int (nI q)), some (.int (nI i))] [] M = some (none, M1) ∧ S1 77 M M1 ∧ (∀ k, i ≤ k → k < 17 → mm_I M1 77 k = mm_I M 80 (17 * q + k)) ∧ ∀ x, (∀ k, i ≤ k → k < 17 → x ≠ k) → mm_I M1 77 x = mm_I M 77 x := by
  intro j
  induction j with
  | zero =>
    intro i f M hij hf
    obtain ⟨f, rfl⟩ : ∃ g, f = g + 1 := ⟨f - 1, by omega⟩
    refine ⟨M, ?_, ⟨rfl, rfl, rfl, rfl, rfl, fun _ _ => rfl⟩, fun k h1 h2 => by omega, fun _ _ => rfl⟩
    rw [lu_X12_takeBack_2, show (17 : Int32) = nI 17 from rfl, if_pos (nI_le (by omega) (by omega))]
  | succ j ih =>
    intro i f M hij hf
    obtain ⟨f, rfl⟩ : ∃ g, f = g + 1 := ⟨f - 1, by omega⟩
    have e : (17 : Int32) * nI q + nI i = nI (17 * q + i) := by rw [show (17 : Int32) = nI 17 from rfl, pk_mul, nI_add]
    obtain ⟨M1, e1, s1, a1, a2⟩ := ih (i + 1) f (mm_wI M 77 i (mm_I M 80 (17 * q + i))) (by omega) (by omega)
    refine ⟨M1, ?_, ⟨s1.1, s1.2.1, s1.2.2.1, s1.2.2.2.1, s1.2.2.2.2.1, fun b hb => by rw [s1.2.2.2.2.2 b hb, I_wn hb]⟩, fun k h1 h2 => ?_, fun x hx => ?_⟩
    · rw [lu_X12_takeBack_2, e, if_neg (by rw [show (17 : Int32) = nI 17 from rfl]; exact nI_ge (by omega) (by omega)), nI_1]
      simp only [mm_inb_nI (show i < 198 by omega) (by omega), mm_inb_nI (show 17 * q + i < 170 by omega) (by omega), mm_ble (show 16 ≤ 77 by omega), Bool.and_self, cond_true, nI_clamp (show i < 2 ^ 31 by omega), nI_clamp (show 17 * q + i < 2 ^ 31 by omega)]
      exact e1
    · by_cases hk : k = i
      · subst hk
        rw [a2 _ (fun k2 g1 g2 => by omega), I_w, if_pos rfl, if_pos rfl]
      · rw [a1 k (by omega) h2, I_w, if_neg (by decide)]
    · rw [a2 x (fun k g1 g2 => hx k (by omega) g2), I_w, if_pos rfl, if_neg (hx i (Nat.le_refl _) (by omega))]
theorem E_takeBack (hN : 100 ≤ N) (d q : Nat) (hq : q < 10) (M : mmM) : ∃ M1, mm_E n xs N (d + 1) 262 [.ref 60, .int (nI q)] M = some (none, M1) ∧ S1 77 M M1 ∧ mm_I M1 77 = fun k => if k < 17 then mm_I M 80 (17 * q + k) else mm_I M 77 k := by
  obtain ⟨M1, e1, s1, a1, a2⟩ := L_takeBack (n := n) (xs := xs) (N := N) d q hq 17 0 N M (by omega) (by omega)
  refine ⟨M1, ?_, s1, ?_⟩
  · rw [u_X12_takeBack]
    exact e1
  · funext k
    by_cases h : k < 17
    · rw [if_pos h, a1 k (by omega) h]
    · rw [if_neg h, a2 k (fun k2 g1 g2 => by omega)]
variable {gv : Int32 → Int32 → Int32 → Int32 → Int32} {Mb : mmM}
theorem nw1_hi {c : Nat} (hc : c < 4) (r : Nat → Int32) {k : Nat} (h : 17 ≤ k) : nw1 gv c r k = r k := by
  unfold nw1
  rw [if_neg (by omega), if_neg (by omega), if_neg (by omega)]
theorem nwj_hi {c : Nat} (hc : c < 4) {k : Nat} (h : 17 ≤ k) : ∀ (j : Nat) (r : Nat → Int32), nwj gv c j r k = r k
  | 0, _ => rfl
  | j + 1, r => by
    show nwj gv c j (nw1 gv c r) k = _
    rw [nwj_hi hc h j, nw1_hi hc r h]
theorem E_standsB (hG : GM n xs N gv Mb) (hN : 400 ≤ N) (d : Nat) (c : Nat) (hc : c < 4) (t l : Nat) (ht : t ≤ 300) (hl : l ≤ 300) (M : mmM) (hq : QM Mb M) (h1 : bd 0 9 (mm_I M 77 c)) (h2 : bd 0 99 (mm_I M 77 8)) (h3 : bd 0 200 (mm_I M 77 9)) (h4 : bd 0 9 (mm_I M 77 12)) (hle : mm_I M 75 (2 * c + 1) - mm_I M 77 (4 + c) = nI l) : ∃ M1, mm_E n xs N (d + 12) 263 [.ref 60, .int (nI c), .int (nI t)] M = some (some (.int (stks gv (mm_I M 77 c) (mm_I M 77 9) (mm_I M 77 12) 0 (min t l) (mm_I M 77 8))), M1) ∧ SM M M1 := by
  obtain ⟨M1, e1, s1, a1, a2⟩ := E_putAside (n := n) (xs := xs) (N := N) (by omega) (d + 10) 0 (by omega) M
  have r77 : mm_I M1 77 = mm_I M 77 := s1.2.2.2.2.2 77 (by decide)
  have r75 : mm_I M1 75 = mm_I M 75 := s1.2.2.2.2.2 75 (by decide)
  have q1 : QM Mb M1 := hq.tr ⟨fun a g1 g2 => s1.2.2.2.2.2 a (by omega), s1.2.2.2.2.2 74 (by decide), by rw [s1.2.2.2.2.2 60 (by decide)]⟩
  obtain ⟨M2, e2, s2⟩ := E_strokesNow hG hN d c hc (min t l) (by omega) M1 q1 (by rw [r77]; exact h1) (by rw [r77]; exact h2) (by rw [r77]; exact h3) (by rw [r77]; exact h4)
  obtain ⟨M3, e3, s3, a3⟩ := E_takeBack (n := n) (xs := xs) (N := N) (by omega) (d + 10) 0 (by omega) M2
  have el := E_leftOf (n := n) (xs := xs) (N := N) (d + 10) M1 c hc
  rw [r75, r77, hle] at el
  have p77 : mm_I M2 77 = nwj gv c (min t l) (mm_I M 77) := by rw [s2.2.2.2.2.2.2, r77]
  refine ⟨M3, ?_, ?_⟩
  · rw [u_X12_standsBehind, show (Value.int (0 : Int32)) = Value.int (nI 0) from rfl, e1, ra_V]
    simp only [Option.bind_some]
    rw [el, ra_I]
    simp only [Option.bind_some]
    rw [E_min, ra_I]
    simp only [Option.bind_some]
    rw [i_min_nI (by omega) (by omega), e2, ra_V]
    simp only [Option.bind_some]
    rw [e3, ra_V, p77, nwj_8 hc (min t l) 0 (mm_I M 77) (mm_I M 77 9) (by rw [show nI 0 = (0 : Int32) from rfl, Int32.add_zero])]
    rfl
  · refine ⟨s3.1.trans (s2.1.trans s1.1), s3.2.1.trans (s2.2.1.trans s1.2.1), s3.2.2.1.trans (s2.2.2.1.trans s1.2.2.1), s3.2.2.2.1.trans (s2.2.2.2.1.trans s1.2.2.2.1), s3.2.2.2.2.1.trans (s2.2.2.2.2.1.trans s1.2.2.2.2.1), fun a b1 b2 b3 => ?_⟩
    by_cases ha : a = 77
    · subst ha
      rw [a3]
      funext k
      by_cases hk : k < 17
      · rw [if_pos hk, s2.2.2.2.2.2.1 80 (by decide) (by decide) (by decide), a1 k hk]
      · rw [if_neg hk, p77, nwj_hi hc (by omega)]
    · rw [s3.2.2.2.2.2 a ha, s2.2.2.2.2.2.1 a b1 b2 ha, s1.2.2.2.2.2 a b3]
end AS
