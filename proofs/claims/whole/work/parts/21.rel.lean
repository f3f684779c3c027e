/-! the two objects, side by side, over rows of cells -/
def bd (lo hi : Int) (x : Int32) : Prop := lo ≤ x.toInt ∧ x.toInt ≤ hi
/-- what was told: nc cooks, nm ministers -/
def RT (M : mmM) (nc nm : Nat) : Prop :=
  nc ≤ 4 ∧ nm ≤ 7 ∧ (nm = 0 ↔ nc = 0) ∧ mm_I M 16 16 = mb (decide (nm ≠ 0)) ∧ mm_I M 34 1 = nI nc ∧ mm_I M 34 2 = nI nm ∧ mm_I M 60 25 = nI nc ∧ mm_I M 60 26 = nI nm ∧
  (∀ k, k < 4 → mm_I M 74 k = mm_I M 33 k) ∧ (∀ c w, c < nc → w < 2 → mm_I M 75 (2 * c + w) = mm_I M 33 (4 + c * 2 + w)) ∧ (∀ m w, m < nm → w < 4 → mm_I M 76 (4 * m + w) = mm_I M 33 (12 + m * 4 + w)) ∧
  bd 0 9 (mm_I M 33 0) ∧ bd 0 1 (mm_I M 33 2) ∧ (∀ c, c < nc → bd 1 40 (mm_I M 33 (4 + c * 2 + 1))) ∧
  (∀ m, m < nm → bd 0 9 (mm_I M 33 (12 + m * 4)) ∧ bd 0 9 (mm_I M 33 (12 + m * 4 + 1)) ∧ bd 0 40 (mm_I M 33 (12 + m * 4 + 2)) ∧ bd 0 9 (mm_I M 33 (12 + m * 4 + 3)))
/-- the bowl -/
def RB (M : mmM) (nc nm : Nat) : Prop :=
  mm_I M 77 8 = mm_I M 35 0 ∧ mm_I M 77 9 = mm_I M 35 1 ∧ mm_I M 77 10 = mm_I M 35 2 ∧ mm_I M 77 11 = mm_I M 35 3 ∧ mm_I M 77 12 = mm_I M 35 4 ∧ mm_I M 77 13 = mm_I M 35 5 ∧ mm_I M 77 14 = mm_I M 35 6 ∧ mm_I M 77 15 = mm_I M 35 7 ∧ mm_I M 77 16 = mm_I M 35 8 ∧
  (∀ c, c < nc → mm_I M 77 c = mm_I M 37 c ∧ mm_I M 77 (4 + c) = mm_I M 36 c) ∧
  bd 0 99 (mm_I M 35 0) ∧ bd 0 160 (mm_I M 35 1) ∧ (0 ≤ (mm_I M 35 2).toInt ∧ (mm_I M 35 2).toInt < 2 ^ nm) ∧ bd 0 9 (mm_I M 35 3) ∧ bd 0 9 (mm_I M 35 4) ∧ bd 0 999 (mm_I M 35 5) ∧ bd 0 9999 (mm_I M 35 6) ∧ bd 0 999 (mm_I M 35 8) ∧
  (∀ c, c < nc → bd 1 9 (mm_I M 37 c)) ∧ (∀ c, c < nc → 0 ≤ (mm_I M 36 c).toInt ∧ (mm_I M 36 c).toInt ≤ (mm_I M 33 (4 + c * 2 + 1)).toInt)
/-- only what the class works with is another: the law's numbers and pile -/
def SX (M M' : mmM) : Prop := M'.1 = M.1 ∧ M'.2.1 = M.2.1 ∧ M'.2.2.1 = M.2.2.1 ∧ M'.2.2.2.2.1 = M.2.2.2.2.1 ∧ M'.2.2.2.2.2 = M.2.2.2.2.2 ∧ (∀ a, a ≠ 25 → a ≠ 31 → mm_I M' a = mm_I M a) ∧ ∀ k, k < 4 → mm_I M' 25 k = mm_I M 25 k
/-- the like of the model: letters, stack, aside -/
def SM (M M' : mmM) : Prop := M'.1 = M.1 ∧ M'.2.1 = M.2.1 ∧ M'.2.2.1 = M.2.2.1 ∧ M'.2.2.2.2.1 = M.2.2.2.2.1 ∧ M'.2.2.2.2.2 = M.2.2.2.2.2 ∧ ∀ a, a ≠ 69 → a ≠ 70 → a ≠ 80 → mm_I M' a = mm_I M a
theorem SX.rf {M : mmM} : SX M M := ⟨rfl, rfl, rfl, rfl, rfl, fun _ _ _ => rfl, fun _ _ => rfl⟩
theorem SM.rf {M : mmM} : SM M M := ⟨rfl, rfl, rfl, rfl, rfl, fun _ _ _ _ => rfl⟩
theorem SX.tr {M M' M'' : mmM} (h : SX M M') (g : SX M' M'') : SX M M'' := ⟨g.1.trans h.1, g.2.1.trans h.2.1, g.2.2.1.trans h.2.2.1, g.2.2.2.1.trans h.2.2.2.1, g.2.2.2.2.1.trans h.2.2.2.2.1, fun a h1 h2 => (g.2.2.2.2.2.1 a h1 h2).trans (h.2.2.2.2.2.1 a h1 h2), fun k hk => (g.2.2.2.2.2.2 k hk).trans (h.2.2.2.2.2.2 k hk)⟩
theorem SM.tr {M M' M'' : mmM} (h : SM M M') (g : SM M' M'') : SM M M'' := ⟨g.1.trans h.1, g.2.1.trans h.2.1, g.2.2.1.trans h.2.2.1, g.2.2.2.1.trans h.2.2.2.1, g.2.2.2.2.1.trans h.2.2.2.2.1, fun a h1 h2 h3 => (g.2.2.2.2.2 a h1 h2 h3).trans (h.2.2.2.2.2 a h1 h2 h3)⟩
theorem SX.I {M M' : mmM} (h : SX M M') {a : Nat} (h1 : a ≠ 25) (h2 : a ≠ 31) : mm_I M' a = mm_I M a := h.2.2.2.2.2.1 a h1 h2
theorem SM.I {M M' : mmM} (h : SM M M') {a : Nat} (h1 : a ≠ 69) (h2 : a ≠ 70) (h3 : a ≠ 80) : mm_I M' a = mm_I M a := h.2.2.2.2.2 a h1 h2 h3
theorem RT.mv {M M' : mmM} {nc nm : Nat} (h : RT M nc nm) (h1 : mm_I M' 16 16 = mm_I M 16 16) (h2 : mm_I M' 34 = mm_I M 34) (h3 : mm_I M' 60 25 = mm_I M 60 25) (h4 : mm_I M' 60 26 = mm_I M 60 26) (h5 : mm_I M' 33 = mm_I M 33) (h6 : mm_I M' 74 = mm_I M 74) (h7 : mm_I M' 75 = mm_I M 75) (h8 : mm_I M' 76 = mm_I M 76) : RT M' nc nm := by
  unfold RT at h ⊢
  rw [h1, h2, h3, h4, h5, h6, h7, h8]
  exact h
theorem RB.mv {M M' : mmM} {nc nm : Nat} (h : RB M nc nm) (h1 : mm_I M' 35 = mm_I M 35) (h2 : mm_I M' 36 = mm_I M 36) (h3 : mm_I M' 37 = mm_I M 37) (h4 : mm_I M' 77 = mm_I M 77) (h5 : mm_I M' 33 = mm_I M 33) : RB M' nc nm := by
  unfold RB at h ⊢
  rw [h1, h2, h3, h4, h5]
  exact h
section HC
variable {n : Nat} {xs : Nat → Int32} {N : Nat} {nc nm : Nat} {M : mmM}
theorem mb_and0 (a b : Bool) : (if mb a = 0 then (0 : Int32) else mb b) = mb (a && b) := by cases a <;> cases b <;> rfl
theorem E_hasCook (d : Nat) (h : RT M nc nm) (c : Int32) : mm_E n xs N (d + 3) 108 [.ref 16, .int c] M = some (some (.int (mb (ck nc c))), M) := by
  obtain ⟨h1, h2, h3, h4, h5, h6, -⟩ := h
  rw [u_X11_hasCook, h4]
  by_cases h0 : nm = 0
  · have hc0 := h3.mp h0
    subst h0; subst hc0
    have : ck 0 c = false := by
      cases hc : ck 0 c with
      | false => rfl
      | true => obtain ⟨j, hj, -⟩ := ck_t (by omega) hc; omega
    rw [this]
    rfl
  · have e : E_howMany (n := n) (xs := xs) (N := N) (d + 0) M 1 (by omega) = E_howMany (n := n) (xs := xs) (N := N) d M 1 (by omega) := rfl
    have hm := E_howMany (n := n) (xs := xs) (N := N) d M 1 (by omega)
    simp only [show decide (nm ≠ 0) = true by simpa using h0, mb_t, show ((1 : Int32) = 0) = False by simp, if_false]
    rw [show (Value.int 1) = Value.int (nI 1) from rfl, hm, ra_I]
    simp only [Option.bind_some]
    rw [E_isWithin, ra_I, h5]
    simp only [Option.bind_some]
    show _ = some (some (Value.int (mb (ck nc c))), M)
    have e2 : wi 0 c (nI nc - 1) = ck nc c := rfl
    rw [e2]
    cases ck nc c <;> rfl
theorem E_hasMin (d : Nat) (h : RT M nc nm) (c : Int32) : mm_E n xs N (d + 3) 110 [.ref 16, .int c] M = some (some (.int (mb (ck nm c))), M) := by
  obtain ⟨h1, h2, h3, h4, h5, h6, -⟩ := h
  rw [u_X11_hasMinister, h4]
  by_cases h0 : nm = 0
  · subst h0
    have : ck 0 c = false := by
      cases hc : ck 0 c with
      | false => rfl
      | true => obtain ⟨j, hj, -⟩ := ck_t (by omega) hc; omega
    rw [this]
    rfl
  · have hm := E_howMany (n := n) (xs := xs) (N := N) d M 2 (by omega)
    simp only [show decide (nm ≠ 0) = true by simpa using h0, mb_t, show ((1 : Int32) = 0) = False by simp, if_false]
    rw [show (Value.int 2) = Value.int (nI 2) from rfl, hm, ra_I]
    simp only [Option.bind_some]
    rw [E_isWithin, ra_I, h6]
    simp only [Option.bind_some]
    have e2 : wi 0 c (nI nm - 1) = ck nm c := rfl
    rw [e2]
    cases ck nm c <;> rfl
theorem E_isCook (d : Nat) (h : RT M nc nm) (c : Int32) : mm_E n xs N (d + 2) 222 [.ref 60, .int c] M = some (some (.int (mb (ck nc c))), M) := by
  obtain ⟨h1, h2, h3, h4, h5, h6, h7, h8, -⟩ := h
  rw [u_X12_isCook, h7, E_in, ra_I]
  exact rb_z _
theorem E_isMin (d : Nat) (h : RT M nc nm) (c : Int32) : mm_E n xs N (d + 2) 223 [.ref 60, .int c] M = some (some (.int (mb (ck nm c))), M) := by
  obtain ⟨h1, h2, h3, h4, h5, h6, h7, h8, -⟩ := h
  rw [u_X12_isMinister, h8, E_in, ra_I]
  exact rb_z _
/-- one of two cooks -/
def c2 (nc : Nat) (a b : Int32) : Bool := ck nc a && (ck nc b && !decide (a = b))
theorem E_hasTwo (d : Nat) (h : RT M nc nm) (a b : Int32) : mm_E n xs N (d + 4) 109 [.ref 16, .int a, .int b] M = some (some (.int (mb (c2 nc a b))), M) := by
  rw [u_X11_hasTwoCooks, E_hasCook (d + 0) h, ra_I]
  unfold c2
  simp only [Option.bind_some]
  cases ck nc a with
  | false => rfl
  | true =>
    rw [E_hasCook (d + 0) h, ra_I]
    simp only [Option.bind_some, mb_t, show ((1 : Int32) = 0) = False by simp, if_false]
    cases ck nc b with
    | false => rfl
    | true =>
      simp only [mb_t, show ((1 : Int32) = 0) = False by simp, if_false]
      by_cases e : a = b <;> simp [e, mb]
theorem E_areTwo (d : Nat) (h : RT M nc nm) (a b : Int32) : mm_E n xs N (d + 3) 282 [.ref 60, .int a, .int b] M = some (some (.int (mb (c2 nc a b))), M) := by
  rw [u_X12_areTwo, E_isCook (d + 0) h, ra_I]
  unfold c2
  simp only [Option.bind_some]
  cases ck nc a with
  | false => rfl
  | true =>
    rw [E_isCook (d + 0) h, ra_I]
    simp only [Option.bind_some, mb_t, show ((1 : Int32) = 0) = False by simp, if_false]
    cases ck nc b with
    | false => rfl
    | true =>
      simp only [mb_t, show ((1 : Int32) = 0) = False by simp, if_false]
      by_cases e : a = b <;> simp [e, mb]
end HC
