/-! bowls copied -/
theorem asR_ref {a : Nat} {f : Nat → Option mmR} : mm_asR (.ref a) f = f a := rfl
theorem rv_some {a : Nat} : mm_rv (some a) = .ref a := rfl
theorem rv_none : mm_rv none = .null := rfl
theorem obj00 : mm_obj (.inl 0) 0 = true := rfl
theorem cpc {a b : Nat} (ha : 16 ≤ a) (hb : 16 ≤ b) : (Nat.ble (mm_cat []) 8 && (Nat.ble 16 a && (Nat.ble 16 b && (!decide (Int32.ofNat 4 < 0) && (!decide ((0 : Int32) < 0) && (!decide ((0 : Int32) < 0) && (Nat.ble ((0 : Int32).toNatClampNeg + (Int32.ofNat 4).toNatClampNeg) 4 && Nat.ble ((0 : Int32).toNatClampNeg + (Int32.ofNat 4).toNatClampNeg) 4))))))) = true := by
  rw [mm_ble ha, mm_ble hb]
  decide
def cp9 (o s : Nat) (M : mmM) : mmM := cpF o s 8 (cpF o s 7 (cpF o s 6 (cpF o s 5 (cpF o s 4 (cpF o s 3 (cpF o s 2 (cpF o s 1 (cpF o s 0 M))))))))
theorem cpF_n {o s k b : Nat} {M : mmM} (h : b ≠ o) : mm_I (cpF o s k M) b = mm_I M b := I_wn h
theorem cpF_o {o s k j : Nat} {M : mmM} : mm_I (cpF o s k M) o j = if j = k then mm_I M s k else mm_I M o j := by
  unfold cpF
  rw [I_w, if_pos rfl]
theorem cp9_n {o s b : Nat} {M : mmM} (h : b ≠ o) : mm_I (cp9 o s M) b = mm_I M b := by
  unfold cp9
  rw [cpF_n h, cpF_n h, cpF_n h, cpF_n h, cpF_n h, cpF_n h, cpF_n h, cpF_n h, cpF_n h]
theorem cp9_o {o s j : Nat} {M : mmM} (h : s ≠ o) (hj : j ≤ 8) : mm_I (cp9 o s M) o j = mm_I M s j := by
  unfold cp9
  simp only [cpF_o, cpF_n h]
  rcases (show j = 0 ∨ j = 1 ∨ j = 2 ∨ j = 3 ∨ j = 4 ∨ j = 5 ∨ j = 6 ∨ j = 7 ∨ j = 8 by omega) with rfl | rfl | rfl | rfl | rfl | rfl | rfl | rfl | rfl <;> simp
theorem cp9_o9 {o s j : Nat} {M : mmM} (hj : 9 ≤ j) : mm_I (cp9 o s M) o j = mm_I M o j := by
  unfold cp9
  simp only [cpF_o]
  rw [if_neg (by omega), if_neg (by omega), if_neg (by omega), if_neg (by omega), if_neg (by omega), if_neg (by omega), if_neg (by omega), if_neg (by omega), if_neg (by omega)]
theorem I_R {M : mmM} {a b : Nat} {r : Nat → Int32} : mm_I (mm_wR M a r) b = if b = a then r else mm_I M b := rfl
theorem cp4 {f g : Nat → Int32} {j : Nat} (hj : j < 4) : va_cpy f g (0 : Int32).toNatClampNeg (0 : Int32).toNatClampNeg (Int32.ofNat 4).toNatClampNeg j = f j := by
  have := pk_cpy_in (f := f) (g := g) (sp := 0) (dp := 0) (n := 4) (j := j) (by omega) (by omega)
  rw [Nat.zero_add, Nat.sub_zero] at this
  exact this
/-- a bowl of its own cells -/
def BO (n : Nat) (xs : Nat → Int32) (M : mmM) (o : Nat) : Prop := 87 ≤ o ∧ o + 3 ≤ mm_n M ∧ mm_s (mm_Y n xs) M o = .inl 0 ∧ mm_s (mm_Y n xs) M (o + 1) = .inr (0, 4) ∧ mm_s (mm_Y n xs) M (o + 2) = .inr (0, 4) ∧ mm_p (mm_Y n xs) M o 9 = some (o + 1) ∧ mm_p (mm_Y n xs) M o 10 = some (o + 2)
section BW
variable {n : Nat} {xs : Nat → Int32} {N : Nat}
theorem E_copyTo (d : Nat) {M : mmM} {o : Nat} (h : BO n xs M o) : ∃ M1, mm_E n xs N (d + 1) 3 [.ref o, .ref 35] M = some (none, M1) ∧ M1.1 = M.1 ∧ M1.2.1 = M.2.1 ∧ M1.2.2.1 = M.2.2.1 ∧ M1.2.2.2.2.1 = M.2.2.2.2.1 ∧ M1.2.2.2.2.2 = M.2.2.2.2.2 ∧ (∀ a, (a < o ∨ o + 3 ≤ a) → mm_I M1 a = mm_I M a) ∧ (∀ j, j ≤ 8 → mm_I M1 o j = mm_I M 35 j) ∧ ∀ j, j < 4 → mm_I M1 (o + 1) j = mm_I M 36 j ∧ mm_I M1 (o + 2) j = mm_I M 37 j := by
  obtain ⟨h1, h2, h3, h4, h5, h6, h7⟩ := h
  refine ⟨mm_wR (mm_wR (cp9 o 35 M) (o + 1) (va_cpy (mm_I (cp9 o 35 M) 36) (mm_I (cp9 o 35 M) (o + 1)) (0 : Int32).toNatClampNeg (0 : Int32).toNatClampNeg (Int32.ofNat 4).toNatClampNeg)) (o + 2) (va_cpy (mm_I (mm_wR (cp9 o 35 M) (o + 1) (va_cpy (mm_I (cp9 o 35 M) 36) (mm_I (cp9 o 35 M) (o + 1)) (0 : Int32).toNatClampNeg (0 : Int32).toNatClampNeg (Int32.ofNat 4).toNatClampNeg)) 37) (mm_I (mm_wR (cp9 o 35 M) (o + 1) (va_cpy (mm_I (cp9 o 35 M) 36) (mm_I (cp9 o 35 M) (o + 1)) (0 : Int32).toNatClampNeg (0 : Int32).toNatClampNeg (Int32.ofNat 4).toNatClampNeg)) (o + 2)) (0 : Int32).toNatClampNeg (0 : Int32).toNatClampNeg (Int32.ofNat 4).toNatClampNeg), ?_, rfl, rfl, rfl, rfl, rfl, fun a ha => ?_, fun j hj => ?_, fun j hj => ⟨?_, ?_⟩⟩
  · rw [u_X0_copyTo]
    simp only [h3, h4, h5, h6, h7, obj00, cond_true, rv_some, asR_ref, show (Nat.ble (0 + 1) 6 && (!Nat.beq 0 2 || Nat.blt (o + 1) 16)) = true from rfl, show (Nat.ble (0 + 1) 6 && (!Nat.beq 0 2 || Nat.blt (o + 2) 16)) = true from rfl, show mm_arr (.inr (0, 4)) 0 = some 4 from rfl, Option.bind_some, cpc (show 16 ≤ 36 by omega) (show 16 ≤ o + 1 by omega), cpc (show 16 ≤ 37 by omega) (show 16 ≤ o + 2 by omega)]
    unfold cp9
    rfl
  · rw [I_R, if_neg (by omega), I_R, if_neg (by omega), cp9_n (by omega)]
  · rw [I_R, if_neg (by omega), I_R, if_neg (by omega), cp9_o (by omega) hj]
  · rw [I_R, if_neg (by omega), I_R, if_pos rfl, cp4 hj, cp9_n (by omega)]
  · rw [I_R, if_pos rfl, cp4 hj, I_R, if_neg (by omega), cp9_n (by omega)]
theorem E_copyBack (d : Nat) {M : mmM} {o : Nat} (h : BO n xs M o) : ∃ M1, mm_E n xs N (d + 1) 3 [.ref 35, .ref o] M = some (none, M1) ∧ M1.1 = M.1 ∧ M1.2.1 = M.2.1 ∧ M1.2.2.1 = M.2.2.1 ∧ M1.2.2.2.2.1 = M.2.2.2.2.1 ∧ M1.2.2.2.2.2 = M.2.2.2.2.2 ∧ (∀ a, a ≠ 35 → a ≠ 36 → a ≠ 37 → mm_I M1 a = mm_I M a) ∧ (∀ j, j ≤ 8 → mm_I M1 35 j = mm_I M o j) ∧ ∀ j, j < 4 → mm_I M1 36 j = mm_I M (o + 1) j ∧ mm_I M1 37 j = mm_I M (o + 2) j := by
  obtain ⟨h1, h2, h3, h4, h5, h6, h7⟩ := h
  refine ⟨mm_wR (mm_wR (cp9 35 o M) 36 (va_cpy (mm_I (cp9 35 o M) (o + 1)) (mm_I (cp9 35 o M) 36) (0 : Int32).toNatClampNeg (0 : Int32).toNatClampNeg (Int32.ofNat 4).toNatClampNeg)) 37 (va_cpy (mm_I (mm_wR (cp9 35 o M) 36 (va_cpy (mm_I (cp9 35 o M) (o + 1)) (mm_I (cp9 35 o M) 36) (0 : Int32).toNatClampNeg (0 : Int32).toNatClampNeg (Int32.ofNat 4).toNatClampNeg)) (o + 2)) (mm_I (mm_wR (cp9 35 o M) 36 (va_cpy (mm_I (cp9 35 o M) (o + 1)) (mm_I (cp9 35 o M) 36) (0 : Int32).toNatClampNeg (0 : Int32).toNatClampNeg (Int32.ofNat 4).toNatClampNeg)) 37) (0 : Int32).toNatClampNeg (0 : Int32).toNatClampNeg (Int32.ofNat 4).toNatClampNeg), ?_, rfl, rfl, rfl, rfl, rfl, fun a ha1 ha2 ha3 => ?_, fun j hj => ?_, fun j hj => ⟨?_, ?_⟩⟩
  · rw [u_X0_copyOf]
    simp only [h3, h4, h5, h6, h7, obj00, cond_true, rv_some, asR_ref, show mm_arr (.inr (0, 4)) 0 = some 4 from rfl, Option.bind_some, cpc (show 16 ≤ o + 1 by omega) (show 16 ≤ 36 by omega), cpc (show 16 ≤ o + 2 by omega) (show 16 ≤ 37 by omega)]
    unfold cp9
    rfl
  · rw [I_R, if_neg ha3, I_R, if_neg ha2, cp9_n ha1]
  · rw [I_R, if_neg (by omega), I_R, if_neg (by omega), cp9_o (by omega) hj]
  · rw [I_R, if_neg (by omega), I_R, if_pos rfl, cp4 hj, cp9_n (by omega)]
  · rw [I_R, if_pos rfl, cp4 hj, I_R, if_neg (by omega), cp9_n (by omega)]
end BW
