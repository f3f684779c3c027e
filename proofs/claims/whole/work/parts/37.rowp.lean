/-! rows of folding: sets below 128, steps, keys -/
def bsum (f : Nat → Nat) (s : Nat) : Nat := (s.testBit 0).toNat * f 0 + (s.testBit 1).toNat * f 1 + (s.testBit 2).toNat * f 2 + (s.testBit 3).toNat * f 3 + (s.testBit 4).toNat * f 4 + (s.testBit 5).toNat * f 5 + (s.testBit 6).toNat * f 6
theorem tb_or (s m i : Nat) : (s ||| 2 ^ m).testBit i = (s.testBit i || decide (m = i)) := by
  rw [Nat.testBit_or, Nat.testBit_two_pow]
theorem bsum_add {f : Nat → Nat} {s m : Nat} (hm : m < 7) (h : s.testBit m = false) : bsum f (s ||| 2 ^ m) = bsum f s + f m := by
  unfold bsum
  simp only [tb_or]
  rcases (show m = 0 ∨ m = 1 ∨ m = 2 ∨ m = 3 ∨ m = 4 ∨ m = 5 ∨ m = 6 by omega) with rfl | rfl | rfl | rfl | rfl | rfl | rfl <;> simp [h] <;> omega
theorem bsum_le {f : Nat → Nat} {s b : Nat} (h : ∀ i, i < 7 → f i ≤ b) : bsum f s ≤ 7 * b := by
  have key : ∀ i, i < 7 → (s.testBit i).toNat * f i ≤ b := by
    intro i hi
    have := h i hi
    cases s.testBit i
    · rw [show false.toNat = 0 from rfl, Nat.zero_mul]; omega
    · rw [show true.toNat = 1 from rfl, Nat.one_mul]; exact this
  have k0 := key 0 (by omega)
  have k1 := key 1 (by omega)
  have k2 := key 2 (by omega)
  have k3 := key 3 (by omega)
  have k4 := key 4 (by omega)
  have k5 := key 5 (by omega)
  have k6 := key 6 (by omega)
  unfold bsum
  omega
theorem bsum_0 (f : Nat → Nat) : bsum f 0 = 0 := by
  unfold bsum
  simp [Nat.zero_testBit]
def pcs (s : Nat) : Nat := bsum (fun _ => 1) s
theorem pcs_le (s : Nat) : pcs s ≤ 7 := bsum_le (b := 1) (fun _ _ => Nat.le_refl _)
theorem pcs_full {s m : Nat} (hm : m < 7) (h : s.testBit m = false) : pcs s ≤ 6 := by
  have := bsum_add (f := fun _ => 1) hm h
  have h2 := pcs_le (s ||| 2 ^ m)
  unfold pcs at *
  omega
/-- k steps -/
def Rk (st : Nat → Nat → Prop) : Nat → Nat → Nat → Nat → Nat → Prop
  | 0, r, s, r', s' => r' = r ∧ s' = s
  | k + 1, r, s, r', s' => ∃ m, st s m ∧ Rk st k (10 * r + m) (s ||| 2 ^ m) r' s'
theorem Rk_snoc {st : Nat → Nat → Prop} : ∀ (k r s r' s' : Nat), Rk st (k + 1) r s r' s' ↔ ∃ r1 s1 m, Rk st k r s r1 s1 ∧ st s1 m ∧ r' = 10 * r1 + m ∧ s' = s1 ||| 2 ^ m
  | 0, r, s, r', s' => by
    constructor
    · rintro ⟨m, h1, h2, h3⟩
      exact ⟨r, s, m, ⟨rfl, rfl⟩, h1, h2, h3⟩
    · rintro ⟨r1, s1, m, ⟨rfl, rfl⟩, h1, h2, h3⟩
      exact ⟨m, h1, h2, h3⟩
  | k + 1, r, s, r', s' => by
    constructor
    · rintro ⟨m, h1, h2⟩
      obtain ⟨r1, s1, m1, a1, a2, a3, a4⟩ := (Rk_snoc k _ _ _ _).mp h2
      exact ⟨r1, s1, m1, ⟨m, h1, a1⟩, a2, a3, a4⟩
    · rintro ⟨r1, s1, m1, ⟨m, h1, a1⟩, a2, a3, a4⟩
      exact ⟨m, h1, (Rk_snoc k _ _ _ _).mpr ⟨r1, s1, m1, a1, a2, a3, a4⟩⟩
theorem Rk_add {st : Nat → Nat → Prop} : ∀ (k j r s r1 s1 r' s' : Nat), Rk st k r s r1 s1 → Rk st j r1 s1 r' s' → Rk st (k + j) r s r' s'
  | 0, j, r, s, r1, s1, r', s', h, g => by
    obtain ⟨rfl, rfl⟩ := h
    rw [Nat.zero_add]
    exact g
  | k + 1, j, r, s, r1, s1, r', s', h, g => by
    obtain ⟨m, h1, h2⟩ := h
    rw [show k + 1 + j = (k + j) + 1 by omega]
    exact ⟨m, h1, Rk_add k j _ _ _ _ _ _ h2 g⟩
/-- may m be folded in behind s -/
def Fst (nm i0 st0 : Nat) (need cost : Nat → Nat) (s m : Nat) : Prop := m < nm ∧ s.testBit m = false ∧ i0.testBit m = false ∧ need m ≤ st0 - bsum cost s
def Fq (nm i0 st0 : Nat) (need cost : Nat → Nat) (r s : Nat) : Prop := ∃ k, Rk (Fst nm i0 st0 need cost) k 0 0 r s
def KK (st0 : Nat) (cost worth : Nat → Nat) (r s : Nat) : Nat := ((bsum worth s * 100 + (st0 - bsum cost s)) * 8 + (7 - pcs s)) * 10000000 + (9999999 - r)
section RP
variable {nm i0 st0 : Nat} {need cost worth : Nat → Nat}
theorem lt_or {s m k : Nat} (hs : s < 2 ^ k) (hm : m < k) : s ||| 2 ^ m < 2 ^ k := Nat.or_lt_two_pow hs (Nat.pow_lt_pow_right (by omega) hm)
theorem Rk_in (h7 : nm ≤ 7) : ∀ (k r s : Nat), Rk (Fst nm i0 st0 need cost) k 0 0 r s → pcs s = k ∧ s < 2 ^ nm ∧ r < 10 ^ k ∧ ∀ i, s.testBit i = true → i0.testBit i = false
  | 0, r, s, h => by
    obtain ⟨rfl, rfl⟩ := h
    exact ⟨bsum_0 _, Nat.two_pow_pos _, by decide, fun i hi => by rw [Nat.zero_testBit] at hi; cases hi⟩
  | k + 1, r, s, h => by
    obtain ⟨r1, s1, m, a1, ⟨b1, b2, b3, b4⟩, rfl, rfl⟩ := (Rk_snoc k _ _ _ _).mp h
    obtain ⟨c1, c2, c3, c4⟩ := Rk_in h7 k r1 s1 a1
    refine ⟨?_, lt_or c2 b1, ?_, fun i hi => ?_⟩
    · have := bsum_add (f := fun _ => 1) (s := s1) (m := m) (by omega) b2
      unfold pcs at c1 ⊢
      omega
    · rw [Nat.pow_succ]
      omega
    · rw [tb_or] at hi
      rcases (Bool.or_eq_true _ _).mp hi with q | q
      · exact c4 i q
      · rw [← of_decide_eq_true q]; exact b3
theorem Fq_in (h7 : nm ≤ 7) {r s : Nat} (h : Fq nm i0 st0 need cost r s) : s < 2 ^ nm ∧ s < 128 ∧ r < 10 ^ pcs s ∧ r ≤ 9999999 ∧ (∀ i, s.testBit i = true → i0.testBit i = false) ∧ Rk (Fst nm i0 st0 need cost) (pcs s) 0 0 r s := by
  obtain ⟨k, hk⟩ := h
  obtain ⟨a1, a2, a3, a4⟩ := Rk_in h7 k r s hk
  subst a1
  have h2 : (2 : Nat) ^ nm ≤ 2 ^ 7 := Nat.pow_le_pow_right (by omega) h7
  have h10 : (10 : Nat) ^ pcs s ≤ 10 ^ 7 := Nat.pow_le_pow_right (by omega) (pcs_le s)
  exact ⟨a2, by omega, a3, by omega, a4, hk⟩
theorem Fq_0 : Fq nm i0 st0 need cost 0 0 := ⟨0, rfl, rfl⟩
theorem Fq_st {r s m : Nat} (h : Fq nm i0 st0 need cost r s) (g : Fst nm i0 st0 need cost s m) : Fq nm i0 st0 need cost (10 * r + m) (s ||| 2 ^ m) := by
  obtain ⟨k, hk⟩ := h
  exact ⟨k + 1, (Rk_snoc k _ _ _ _).mpr ⟨r, s, m, hk, g, rfl, rfl⟩⟩
/-- the last step -/
theorem Fq_last {r s : Nat} : Fq nm i0 st0 need cost r s ↔ (r = 0 ∧ s = 0) ∨ ∃ r1 s1 m, Fq nm i0 st0 need cost r1 s1 ∧ Fst nm i0 st0 need cost s1 m ∧ r = 10 * r1 + m ∧ s = s1 ||| 2 ^ m := by
  constructor
  · rintro ⟨k, hk⟩
    cases k with
    | zero => exact Or.inl hk
    | succ k =>
      obtain ⟨r1, s1, m, a1, a2, a3, a4⟩ := (Rk_snoc k _ _ _ _).mp hk
      exact Or.inr ⟨r1, s1, m, ⟨k, a1⟩, a2, a3, a4⟩
  · rintro (⟨rfl, rfl⟩ | ⟨r1, s1, m, h, g, rfl, rfl⟩)
    · exact Fq_0
    · exact Fq_st h g
/-- one key, one row -/
theorem KK_eq {r s r' s' : Nat} (hst : st0 ≤ 99) (hr : r ≤ 9999999) (hr' : r' ≤ 9999999) (h : KK st0 cost worth r s = KK st0 cost worth r' s') : bsum worth s = bsum worth s' ∧ st0 - bsum cost s = st0 - bsum cost s' ∧ pcs s = pcs s' ∧ r = r' := by
  have p1 := pcs_le s
  have p2 := pcs_le s'
  unfold KK at h
  omega
/-- the better of two, as it is tested -/
theorem KK_lt {r s r' s' : Nat} (hst : st0 ≤ 99) (hr : r ≤ 9999999) (hr' : r' ≤ 9999999) : KK st0 cost worth r s < KK st0 cost worth r' s' ↔ (bsum worth s < bsum worth s' ∨ (bsum worth s' = bsum worth s ∧ (st0 - bsum cost s < st0 - bsum cost s' ∨ (st0 - bsum cost s' = st0 - bsum cost s ∧ (pcs s' < pcs s ∨ (pcs s' = pcs s ∧ r' < r)))))) := by
  have p1 := pcs_le s
  have p2 := pcs_le s'
  unfold KK
  omega
end RP
