/-! sets as numbers -/
def bmask (p : Nat → Bool) : Nat → Nat
  | 0 => 0
  | j + 1 => 2 ^ j * (p j).toNat + bmask p j
theorem bmask_s (p : Nat → Bool) (j : Nat) : bmask p (j + 1) = 2 ^ j * (p j).toNat + bmask p j := rfl
theorem bmask_lt (p : Nat → Bool) : ∀ j, bmask p j < 2 ^ j
  | 0 => Nat.zero_lt_one
  | j + 1 => by
    have := bmask_lt p j
    unfold bmask
    rw [Nat.pow_succ]
    cases p j
    · rw [show false.toNat = 0 from rfl, Nat.mul_zero]; omega
    · rw [show true.toNat = 1 from rfl, Nat.mul_one]; omega
theorem bmask_tb (p : Nat → Bool) : ∀ j m, (bmask p j).testBit m = (decide (m < j) && p m)
  | 0, m => by
    unfold bmask
    rw [Nat.zero_testBit, decide_eq_false (by omega)]
    rfl
  | j + 1, m => by
    have ih := bmask_tb p j m
    have hl := bmask_lt p j
    unfold bmask
    cases hp : p j with
    | false =>
      rw [show false.toNat = 0 from rfl, Nat.mul_zero, Nat.zero_add, ih]
      by_cases q : m = j
      · subst q
        rw [hp, Bool.and_false, Bool.and_false]
      · have : decide (m < j) = decide (m < j + 1) := decide_eq_decide.mpr (by omega)
        rw [this]
    | true =>
      rw [show true.toNat = 1 from rfl, Nat.mul_one]
      rcases Nat.lt_trichotomy m j with q | q | q
      · rw [Nat.testBit_two_pow_add_gt q, ih, decide_eq_true q, decide_eq_true (show m < j + 1 by omega)]
      · subst q
        rw [Nat.testBit_two_pow_add_eq, Nat.testBit_lt_two_pow hl, decide_eq_true (show m < m + 1 by omega), hp]
        rfl
      · have : 2 ^ j + bmask p j < 2 ^ m := by
          have h1 : 2 ^ (j + 1) ≤ 2 ^ m := Nat.pow_le_pow_right (by omega) (by omega)
          rw [Nat.pow_succ] at h1
          omega
        rw [Nat.testBit_lt_two_pow this, decide_eq_false (by omega)]
        rfl
theorem nI_or (a b : Nat) : nI a ||| nI b = nI (a ||| b) := by
  apply Int32.toBitVec_inj.mp
  rw [Int32.toBitVec_or]
  exact (BitVec.ofNat_or).symm
theorem sm31 {m : Nat} (hm : m < 32) : ((nI m &&& 31).toBitVec.smod 32).toNat = m := by
  have : ∀ m, m < 32 → ((nI m &&& 31).toBitVec.smod 32).toNat = m := by decide +kernel
  exact this m hm
theorem shl1 {m : Nat} (hm : m < 32) : (1 : Int32) <<< (nI m &&& 31) = nI (2 ^ m) := by
  have := pk_shlN (n := 1) (nI m &&& 31) m (sm31 hm) (by rw [Nat.one_mul]; exact Nat.pow_lt_pow_right (by omega) hm)
  rw [Nat.one_mul] at this
  exact this
theorem ib_tb {s m : Nat} (hs : s < 2 ^ 31) (hm : m < 32) : ib (nI s) m = s.testBit m := by
  unfold ib
  have h1 := pk_shrN hs (nI m &&& 31) m (sm31 hm)
  have h2 : s / 2 ^ m < 2 ^ 32 := Nat.lt_of_le_of_lt (Nat.div_le_self _ _) (by omega)
  have h3 := pk_andN (n := s / 2 ^ m) h2 (m := 1) 1 (by decide)
  rw [h1, h3, Nat.testBit_eq_decide_div_mod_eq]
  apply decide_eq_decide.mpr
  exact nI_eq (a := s / 2 ^ m % 2 ^ 1) (b := 1) (by omega) (by omega)
/-- the set of those below j for which p holds, made bit by bit -/
def fyS (p : Nat → Bool) (i j : Nat) (a : Int32) : Int32 := foldI (fun y a => if p y = true then a ||| ((1 : Int32) <<< (nI y &&& 31)) else a ||| 0) i j a
theorem fyS_s (p : Nat → Bool) (i j : Nat) (a : Int32) : fyS p i (j + 1) a = fyS p (i + 1) j (if p i = true then a ||| ((1 : Int32) <<< (nI i &&& 31)) else a ||| 0) := rfl
theorem i_or0 (a : Int32) : a ||| 0 = a := by
  apply Int32.toBitVec_inj.mp
  rw [Int32.toBitVec_or]
  exact BitVec.or_zero
theorem fyS_mask (p : Nat → Bool) : ∀ j, j ≤ 31 → fyS p 0 j 0 = nI (bmask p j)
  | 0, _ => rfl
  | j + 1, h => by
    have ih := fyS_mask p j (by omega)
    unfold fyS at ih ⊢
    rw [foldI_succ, ih, Nat.zero_add, bmask_s]
    cases p j with
    | false =>
      rw [if_neg (by decide), i_or0, show false.toNat = 0 from rfl, Nat.mul_zero, Nat.zero_add]
    | true =>
      rw [if_pos rfl, shl1 (by omega), nI_or, show true.toNat = 1 from rfl, Nat.mul_one, Nat.or_comm]
      have := Nat.two_pow_add_eq_or_of_lt (bmask_lt p j) 1
      rw [Nat.mul_one] at this
      rw [this]
theorem fyS_ib (p : Nat → Bool) {j m : Nat} (hj : j ≤ 31) (hm : m < 32) : ib (fyS p 0 j 0) m = (decide (m < j) && p m) := by
  have h1 : bmask p j < 2 ^ 31 := Nat.lt_of_lt_of_le (bmask_lt p j) (Nat.pow_le_pow_right (by omega) hj)
  rw [fyS_mask p j hj, ib_tb h1 hm, bmask_tb]
/-- how many -/
def cnt (p : Nat → Bool) : Nat → Nat
  | 0 => 0
  | j + 1 => cnt p j + (p j).toNat
theorem cnt_le (p : Nat → Bool) : ∀ j, cnt p j ≤ j
  | 0 => Nat.le_refl _
  | j + 1 => by
    have := cnt_le p j
    unfold cnt
    cases p j <;> simp <;> omega
def bcn (x1 : Int32) : Int32 := ((((((((x1 - (((x1.toUInt32 >>> ((1 : Int32).toUInt32 &&& Int32.toUInt32 31)).toInt32) &&& (1431655765 : Int32))) &&& (858993459 : Int32)) + ((((x1 - (((x1.toUInt32 >>> ((1 : Int32).toUInt32 &&& Int32.toUInt32 31)).toInt32) &&& (1431655765 : Int32))).toUInt32 >>> ((2 : Int32).toUInt32 &&& Int32.toUInt32 31)).toInt32) &&& (858993459 : Int32))) + (((((x1 - (((x1.toUInt32 >>> ((1 : Int32).toUInt32 &&& Int32.toUInt32 31)).toInt32) &&& (1431655765 : Int32))) &&& (858993459 : Int32)) + ((((x1 - (((x1.toUInt32 >>> ((1 : Int32).toUInt32 &&& Int32.toUInt32 31)).toInt32) &&& (1431655765 : Int32))).toUInt32 >>> ((2 : Int32).toUInt32 &&& Int32.toUInt32 31)).toInt32) &&& (858993459 : Int32))).toUInt32 >>> ((4 : Int32).toUInt32 &&& Int32.toUInt32 31)).toInt32)) &&& (252645135 : Int32)) + (((((((x1 - (((x1.toUInt32 >>> ((1 : Int32).toUInt32 &&& Int32.toUInt32 31)).toInt32) &&& (1431655765 : Int32))) &&& (858993459 : Int32)) + ((((x1 - (((x1.toUInt32 >>> ((1 : Int32).toUInt32 &&& Int32.toUInt32 31)).toInt32) &&& (1431655765 : Int32))).toUInt32 >>> ((2 : Int32).toUInt32 &&& Int32.toUInt32 31)).toInt32) &&& (858993459 : Int32))) + (((((x1 - (((x1.toUInt32 >>> ((1 : Int32).toUInt32 &&& Int32.toUInt32 31)).toInt32) &&& (1431655765 : Int32))) &&& (858993459 : Int32)) + ((((x1 - (((x1.toUInt32 >>> ((1 : Int32).toUInt32 &&& Int32.toUInt32 31)).toInt32) &&& (1431655765 : Int32))).toUInt32 >>> ((2 : Int32).toUInt32 &&& Int32.toUInt32 31)).toInt32) &&& (858993459 : Int32))).toUInt32 >>> ((4 : Int32).toUInt32 &&& Int32.toUInt32 31)).toInt32)) &&& (252645135 : Int32)).toUInt32 >>> ((8 : Int32).toUInt32 &&& Int32.toUInt32 31)).toInt32)) + ((((((((x1 - (((x1.toUInt32 >>> ((1 : Int32).toUInt32 &&& Int32.toUInt32 31)).toInt32) &&& (1431655765 : Int32))) &&& (858993459 : Int32)) + ((((x1 - (((x1.toUInt32 >>> ((1 : Int32).toUInt32 &&& Int32.toUInt32 31)).toInt32) &&& (1431655765 : Int32))).toUInt32 >>> ((2 : Int32).toUInt32 &&& Int32.toUInt32 31)).toInt32) &&& (858993459 : Int32))) + (((((x1 - (((x1.toUInt32 >>> ((1 : Int32).toUInt32 &&& Int32.toUInt32 31)).toInt32) &&& (1431655765 : Int32))) &&& (858993459 : Int32)) + ((((x1 - (((x1.toUInt32 >>> ((1 : Int32).toUInt32 &&& Int32.toUInt32 31)).toInt32) &&& (1431655765 : Int32))).toUInt32 >>> ((2 : Int32).toUInt32 &&& Int32.toUInt32 31)).toInt32) &&& (858993459 : Int32))).toUInt32 >>> ((4 : Int32).toUInt32 &&& Int32.toUInt32 31)).toInt32)) &&& (252645135 : Int32)) + (((((((x1 - (((x1.toUInt32 >>> ((1 : Int32).toUInt32 &&& Int32.toUInt32 31)).toInt32) &&& (1431655765 : Int32))) &&& (858993459 : Int32)) + ((((x1 - (((x1.toUInt32 >>> ((1 : Int32).toUInt32 &&& Int32.toUInt32 31)).toInt32) &&& (1431655765 : Int32))).toUInt32 >>> ((2 : Int32).toUInt32 &&& Int32.toUInt32 31)).toInt32) &&& (858993459 : Int32))) + (((((x1 - (((x1.toUInt32 >>> ((1 : Int32).toUInt32 &&& Int32.toUInt32 31)).toInt32) &&& (1431655765 : Int32))) &&& (858993459 : Int32)) + ((((x1 - (((x1.toUInt32 >>> ((1 : Int32).toUInt32 &&& Int32.toUInt32 31)).toInt32) &&& (1431655765 : Int32))).toUInt32 >>> ((2 : Int32).toUInt32 &&& Int32.toUInt32 31)).toInt32) &&& (858993459 : Int32))).toUInt32 >>> ((4 : Int32).toUInt32 &&& Int32.toUInt32 31)).toInt32)) &&& (252645135 : Int32)).toUInt32 >>> ((8 : Int32).toUInt32 &&& Int32.toUInt32 31)).toInt32)).toUInt32 >>> ((16 : Int32).toUInt32 &&& Int32.toUInt32 31)).toInt32)) &&& (63 : Int32))
def pc10 (s : Nat) : Nat := (s.testBit 0).toNat + (s.testBit 1).toNat + (s.testBit 2).toNat + (s.testBit 3).toNat + (s.testBit 4).toNat + (s.testBit 5).toNat + (s.testBit 6).toNat + (s.testBit 7).toNat + (s.testBit 8).toNat + (s.testBit 9).toNat
theorem bcn_pc : ∀ s, s < 1024 → bcn (nI s) = nI (pc10 s) := by decide +kernel
theorem cnt_pc (p : Nat → Bool) : pc10 (bmask p 10) = cnt p 10 := by
  unfold pc10
  simp only [bmask_tb, show (decide (0 < 10)) = true from rfl, show (decide (1 < 10)) = true from rfl, show (decide (2 < 10)) = true from rfl, show (decide (3 < 10)) = true from rfl, show (decide (4 < 10)) = true from rfl, show (decide (5 < 10)) = true from rfl, show (decide (6 < 10)) = true from rfl, show (decide (7 < 10)) = true from rfl, show (decide (8 < 10)) = true from rfl, show (decide (9 < 10)) = true from rfl, Bool.true_and, cnt, Nat.zero_add]
section BI
variable {n : Nat} {xs : Nat → Int32} {N : Nat}
theorem E_bitCount (d : Nat) (M : mmM) (p : Nat → Bool) : mm_E n xs N (d + 1) 299 [.int (fyS p 0 10 0)] M = some (some (.int (nI (cnt p 10))), M) := by
  rw [u_J6_bitCount_0f7a4]
  show some (some (Value.int (bcn (fyS p 0 10 0))), M) = _
  rw [fyS_mask p 10 (by omega), bcn_pc _ (bmask_lt p 10), cnt_pc]
end BI
theorem cnt_0 {p : Nat → Bool} : ∀ {j : Nat}, cnt p j = 0 ↔ ∀ i, i < j → p i = false
  | 0 => ⟨fun _ i hi => by omega, fun _ => rfl⟩
  | j + 1 => by
    have ih := cnt_0 (p := p) (j := j)
    unfold cnt
    constructor
    · intro h i hi
      have h1 : cnt p j = 0 := by omega
      by_cases q : i = j
      · subst q
        cases hp : p i with
        | false => rfl
        | true => rw [hp] at h; simp at h
      · exact ih.mp h1 i (by omega)
    · intro h
      rw [ih.mpr (fun i hi => h i (by omega)), h j (by omega)]
      rfl
theorem fyS_0 {p : Nat → Bool} {j : Nat} (hj : j ≤ 30) : (fyS p 0 j 0 = 0) = (∀ i, i < j → p i = false) := by
  have hl := bmask_lt p j
  have h1 : bmask p j < 2 ^ 31 := Nat.lt_of_lt_of_le hl (Nat.pow_le_pow_right (by omega) (by omega))
  rw [fyS_mask p j (by omega), nI_eq0 h1]
  apply propext
  constructor
  · intro h i hi
    have := bmask_tb p j i
    rw [h, Nat.zero_testBit, decide_eq_true hi, Bool.true_and] at this
    exact this.symm
  · intro h
    have : ∀ k, k ≤ j → bmask p k = 0 := by
      intro k
      induction k with
      | zero => intro _; rfl
      | succ k ih =>
        intro hk
        unfold bmask
        rw [ih (by omega), h k (by omega)]
        rfl
    exact this j (Nat.le_refl _)
/-! the x-th of them -/
theorem rsL_s (p : Nat → Bool) (a : Nat → Int32) (x : Int32) (j i m : Nat) : rsL p a x (j + 1) i m = if p i = true then (if nI m = x then a i else rsL p a x j (i + 1) (m + 1)) else rsL p a x j (i + 1) m := rfl
theorem rsL_e (p : Nat → Bool) (a : Nat → Int32) (x : Int32) (i m : Nat) : rsL p a x 0 i m = if x = -1 then nI m else -1 := rfl
theorem rsL_no {p : Nat → Bool} {a : Nat → Int32} {x : Int32} : ∀ (k i m : Nat), (∀ y, i ≤ y → y < i + k → p y = false) → rsL p a x k i m = if x = -1 then nI m else -1
  | 0, _, _, _ => rfl
  | k + 1, i, m, h => by
    rw [rsL_s, h i (by omega) (by omega), if_neg (by decide)]
    exact rsL_no k (i + 1) m (fun y h1 h2 => h y (by omega) (by omega))
theorem rsL_cut {p : Nat → Bool} {a : Nat → Int32} {x : Int32} {k : Nat} : ∀ (j i m : Nat), (∀ y, i + j ≤ y → y < i + j + k → p y = false) → rsL p a x (j + k) i m = rsL p a x j i m
  | 0, i, m, h => by
    rw [Nat.zero_add, rsL_no k i m (fun y h1 h2 => h y (by omega) (by omega)), rsL_e]
  | j + 1, i, m, h => by
    rw [show j + 1 + k = (j + k) + 1 by omega, rsL_s, rsL_s, rsL_cut j (i + 1) (m + 1) (fun y h1 h2 => h y (by omega) (by omega)), rsL_cut j (i + 1) m (fun y h1 h2 => h y (by omega) (by omega))]
theorem rsL_congr {p q : Nat → Bool} {a : Nat → Int32} {x : Int32} : ∀ (j i m : Nat), (∀ y, i ≤ y → y < i + j → p y = q y) → rsL p a x j i m = rsL q a x j i m
  | 0, _, _, _ => rfl
  | j + 1, i, m, h => by
    rw [rsL_s, rsL_s, h i (by omega) (by omega), rsL_congr j (i + 1) (m + 1) (fun y h1 h2 => h y (by omega) (by omega)), rsL_congr j (i + 1) m (fun y h1 h2 => h y (by omega) (by omega))]
def cntF (p : Nat → Bool) (i : Nat) : Nat → Nat
  | 0 => 0
  | j + 1 => (p i).toNat + cntF p (i + 1) j
theorem cntF_s (p : Nat → Bool) : ∀ (j i : Nat), cntF p i (j + 1) = cntF p i j + (p (i + j)).toNat
  | 0, i => by simp [cntF]
  | j + 1, i => by
    have := cntF_s p j (i + 1)
    show (p i).toNat + cntF p (i + 1) (j + 1) = (p i).toNat + cntF p (i + 1) j + _
    rw [this, show i + 1 + j = i + (j + 1) by omega, Nat.add_assoc]
theorem cntF_0 (p : Nat → Bool) : ∀ j, cntF p 0 j = cnt p j
  | 0 => rfl
  | j + 1 => by
    rw [cntF_s, cntF_0 p j, Nat.zero_add]
    rfl
theorem rsL_all {p : Nat → Bool} {a : Nat → Int32} : ∀ (j i m : Nat), m + j < 2 ^ 31 → rsL p a (-1) j i m = nI (m + cntF p i j)
  | 0, i, m, _ => by
    rw [rsL_e, if_pos rfl]
    rfl
  | j + 1, i, m, h => by
    rw [rsL_s, if_neg (nI_ne1 (show m < 2 ^ 31 by omega)), rsL_all j (i + 1) (m + 1) (by omega), rsL_all j (i + 1) m (by omega), show cntF p i (j + 1) = (p i).toNat + cntF p (i + 1) j from rfl]
    cases p i with
    | false => rw [if_neg (by decide), show false.toNat = 0 from rfl, Nat.zero_add]
    | true => rw [if_pos rfl, show true.toNat = 1 from rfl, Nat.add_assoc]
/-! any of them -/
def anyB (p : Nat → Bool) : Nat → Nat → Bool
  | _, 0 => false
  | i, j + 1 => p i || anyB p (i + 1) j
theorem anyB_s (p : Nat → Bool) (i j : Nat) : anyB p i (j + 1) = (p i || anyB p (i + 1) j) := rfl
theorem anyB_iff {p : Nat → Bool} : ∀ (j i : Nat), anyB p i j = true ↔ ∃ m, i ≤ m ∧ m < i + j ∧ p m = true
  | 0, i => by
    constructor
    · intro h; cases h
    · rintro ⟨m, h1, h2, _⟩; omega
  | j + 1, i => by
    rw [anyB_s, Bool.or_eq_true, anyB_iff j (i + 1)]
    constructor
    · rintro (h | ⟨m, h1, h2, h3⟩)
      · exact ⟨i, by omega, by omega, h⟩
      · exact ⟨m, by omega, by omega, h3⟩
    · rintro ⟨m, h1, h2, h3⟩
      by_cases q : m = i
      · subst q; exact Or.inl h3
      · exact Or.inr ⟨m, by omega, by omega, h3⟩
