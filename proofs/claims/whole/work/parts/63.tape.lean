/-! the tape: what holds of both; all else holds on -/
def tfc (a : Nat) : Bool := (Nat.ble 17 a && Nat.ble a 31) || (Nat.ble 60 a && Nat.ble a 73)
/-- the tape has s bytes, alike for both -/
def RTP (M : mmM) (s : Nat) : Prop := s ≤ 240 ∧ mm_I M 17 1 = nI s ∧ mm_I M 60 2 = nI s ∧ ∀ i, i < s → mm_I M 61 i = mm_I M 18 i ∧ bd 1 255 (mm_I M 18 i)
section TA
variable {n : Nat} {xs : Nat → Int32} {N : Nat} {gv gv' : Int32 → Int32 → Int32 → Int32 → Int32} {M M' M1 M2 : mmM} {nc nm k p z h : Nat} {bs rs : Nat → Nat → Int32} {Dk : Nat → Nat} {im : Bool}
theorem tfc_ne {a b : Nat} (ha : tfc a = false) (hb : tfc b = true) : a ≠ b := fun e => by subst e; rw [ha] at hb; cases hb
theorem tfc_hi {a : Nat} (h : 74 ≤ a) : tfc a = false := by
  unfold tfc
  have e3 : Nat.ble a 31 = false := by
    cases hh : Nat.ble a 31 with
    | false => rfl
    | true => have := Nat.ble_eq.mp hh; omega
  have e4 : Nat.ble a 73 = false := by
    cases hh : Nat.ble a 73 with
    | false => rfl
    | true => have := Nat.ble_eq.mp hh; omega
  rw [e3, e4]
  simp
theorem IV.tf (hI : IV n xs N gv M nc nm k p z h bs rs Dk im) (hs : M'.1 = M.1) (hn : M'.2.1 = M.2.1) (hz : M'.2.2.1 = M.2.2.1) (hP : M'.2.2.2.2.2 = M.2.2.2.2.2) (hF : ∀ a, tfc a = false → mm_I M' a = mm_I M a) (h25 : mm_I M' 25 1 = mm_I M 25 1) (h60 : ∀ q, q = 25 ∨ q = 26 ∨ q = 30 ∨ q = 32 ∨ q = 43 ∨ q = 45 → mm_I M' 60 q = mm_I M 60 q) (hGX : GX n xs N gv' M') (hGM : GM n xs N gv' M') : IV n xs N gv' M' nc nm k p z h bs rs Dk im := by
  obtain ⟨⟨t1, t2, t3, t4, t5, t6⟩, i2, i3, i4, i5, i6, i7, i8, i9, ⟨i10, i11, i12⟩, i13, ⟨i14, i15⟩, i16, i17, i18, i19⟩ := hI
  have lw : lwN M' = lwN M := by unfold lwN; rw [h25]
  have pp : ∀ a q, mm_p (mm_Y n xs) M' a q = mm_p (mm_Y n xs) M a q := fun a q => by unfold mm_p; rw [hP]
  have en : nowX M' = nowX M := by unfold nowX; rw [hF 35 (by decide), hF 36 (by decide), hF 37 (by decide)]
  refine ⟨⟨t1.mv (by rw [hF 16 (by decide)]) (hF 34 (by decide)) (h60 25 (by omega)) (h60 26 (by omega)) (hF 33 (by decide)) (hF 74 (by decide)) (hF 75 (by decide)) (hF 76 (by decide)), t2.mv (hF 35 (by decide)) (hF 36 (by decide)) (hF 37 (by decide)) (hF 77 (by decide)) (hF 33 (by decide)), hGX, hGM, fun j b hj hb => t5 j b hj ((pp _ _).symm.trans hb), t6⟩, ?_, ?_, ?_, ?_, ?_, ?_, ⟨i8.1, by rw [en]; exact i8.2⟩, ?_, ⟨?_, ?_, ?_⟩, ?_, ⟨?_, ?_⟩, ?_, ?_, ?_, i19.1, ?_, ?_⟩
  · unfold RS at i2 ⊢
    rw [hF 47 (by decide), hF 48 (by decide), hF 49 (by decide), hF 50 (by decide), hF 51 (by decide), hF 81 (by decide), hF 82 (by decide), hF 83 (by decide), hF 84 (by decide), h60 43 (by omega)]
    exact i2
  · refine i3.mv (fun a _ _ => congrFun hs a) (by rw [show mm_n M' = mm_n M from hn]; exact Nat.le_refl _) (fun a q _ _ => congrFun (congrFun hP a) q) ?_ ?_ i3.2.1 i3.2.2.2.1 i3.2.2.2.2.2.2.1 i3.2.2.2.2.2.2.2.1
    · rw [hF 38 (by decide)]; exact i3.1
    · rw [hF 38 (by decide)]; exact i3.2.2.1
  · refine CP.mv i3 i4 (fun q => congrFun (congrFun hP 39) q) (fun i o hi e => ?_)
    obtain ⟨o2, e2, B2⟩ := i3.2.2.2.2.2.2.2.2.2.1 i hi
    have : o2 = o := Option.some.inj (e2.symm.trans e)
    subst this
    have := B2.1
    exact ⟨hF _ (tfc_hi (by omega)), hF _ (tfc_hi (by omega)), hF _ (tfc_hi (by omega))⟩
  · obtain ⟨x1, x2⟩ := i5
    refine ⟨by rw [h60 32 (by omega)]; exact x1, ?_⟩
    rw [hF 79 (by decide)]
    exact x2
  · rw [hF 41 (by decide), hF 77 (by decide)]; exact i6
  · rw [hF 35 (by decide)]; exact i7
  · rw [hF 33 (by decide), hF 41 (by decide)]; exact i9
  · rw [hF 16 (by decide)]; exact i10
  · rw [h60 45 (by omega)]; exact i11
  · rw [hF 33 (by decide), hF 46 (by decide), hF 42 (by decide), hF 43 (by decide), hF 44 (by decide), hF 85 (by decide)]; exact i12
  · rw [hF 57 (by decide), hF 78 (by decide)]; exact i13
  · rw [hF 16 (by decide), h60 30 (by omega)]; exact i14
  · rw [h60 30 (by omega)]; exact i15
  · rw [hF 54 (by decide)]; exact i16
  · rw [hF 55 (by decide)]; exact i17
  · intro j b hj hb
    rw [pp] at hb
    obtain ⟨c1, c2, c3⟩ := i18 j b hj hb
    refine ⟨by rw [show mm_n M' = mm_n M from hn]; exact c1, c2, fun i o hi e => c3 i o hi ?_⟩
    rw [pp] at e
    exact e
  · rw [lw, show mm_n M' = mm_n M from hn]; exact i19.2.1
  · rw [lw, show mm_z M' = mm_z M from hz]; exact i19.2.2
theorem RTP.fa {s : Nat} (h : RTP M s) (f : FA n xs M M') : RTP M' s := by
  obtain ⟨h1, h2, h3, h4⟩ := h
  refine ⟨h1, by rw [f.1 17 (by decide) (by decide)]; exact h2, by rw [f.2.2.1 2 (by decide) (by omega)]; exact h3, ?_⟩
  rw [f.1 61 (by decide) (by decide), f.1 18 (by decide) (by decide)]
  exact h4
/-! bytes -/
def shI (j : Nat) : Int32 := match j with
  | 0 => 24
  | 1 => 16
  | 2 => 8
  | 3 => 0
  | _ => -8
def by1 (w : Int32) (j : Nat) : Int32 := (w >>> (shI j &&& 31)) &&& 255
theorem by_eq (w : Int32) (s : Nat) (hs : s ≤ 24) : (w.toUInt32 >>> ((nI s).toUInt32 &&& Int32.toUInt32 31)).toInt32 &&& 255 = (w >>> (nI s &&& 31)) &&& 255 := by
  have e1 : (((nI s).toUInt32 &&& Int32.toUInt32 31).toBitVec % 32).toNat = s := by
    have : ∀ s, s ≤ 24 → (((nI s).toUInt32 &&& Int32.toUInt32 31).toBitVec % 32).toNat = s := by decide +kernel
    exact this s hs
  have e2 : ((nI s &&& 31).toBitVec.smod 32).toNat = s := by
    have : ∀ s, s ≤ 24 → ((nI s &&& 31).toBitVec.smod 32).toNat = s := by decide +kernel
    exact this s hs
  have u := pk_ushr w (nI s) s e1
  have v := pk_shr w (nI s &&& 31) s e2
  rw [pk_and _ (m := 255) 8 (by decide), pk_and _ (m := 255) 8 (by decide), u]
  congr 1
  have w1 : (w >>> (nI s &&& 31)).toBitVec.toNat = ((w >>> (nI s &&& 31)).toInt % 2 ^ 32).toNat := by
    show (w >>> (nI s &&& 31)).toBitVec.toNat = ((w >>> (nI s &&& 31)).toBitVec.toInt % 2 ^ 32).toNat
    rw [BitVec.toInt_eq_toNat_cond]
    have := (w >>> (nI s &&& 31)).toBitVec.isLt
    split <;> omega
  have w2 : w.toInt = if w.toBitVec.toNat < 2 ^ 31 then (w.toBitVec.toNat : Int) else (w.toBitVec.toNat : Int) - 2 ^ 32 := by
    show w.toBitVec.toInt = _
    rw [BitVec.toInt_eq_toNat_cond]
    have := w.toBitVec.isLt
    split <;> split <;> omega
  rw [w1, v, Int.shiftRight_eq_div_pow]
  have hb := w.toBitVec.isLt
  rcases (show s = 0 ∨ s = 1 ∨ s = 2 ∨ s = 3 ∨ s = 4 ∨ s = 5 ∨ s = 6 ∨ s = 7 ∨ s = 8 ∨ s = 9 ∨ s = 10 ∨ s = 11 ∨ s = 12 ∨ s = 13 ∨ s = 14 ∨ s = 15 ∨ s = 16 ∨ s = 17 ∨ s = 18 ∨ s = 19 ∨ s = 20 ∨ s = 21 ∨ s = 22 ∨ s = 23 ∨ s = 24 by omega) with rfl | rfl | rfl | rfl | rfl | rfl | rfl | rfl | rfl | rfl | rfl | rfl | rfl | rfl | rfl | rfl | rfl | rfl | rfl | rfl | rfl | rfl | rfl | rfl | rfl <;> (rw [w2]; split <;> omega)
theorem by_u (w : Int32) {j : Nat} (hj : j < 4) : (w.toUInt32 >>> ((shI j).toUInt32 &&& Int32.toUInt32 31)).toInt32 &&& 255 = by1 w j := by
  rcases (show j = 0 ∨ j = 1 ∨ j = 2 ∨ j = 3 by omega) with rfl | rfl | rfl | rfl
  · exact by_eq w 24 (by omega)
  · exact by_eq w 16 (by omega)
  · exact by_eq w 8 (by omega)
  · exact by_eq w 0 (by omega)
theorem by_bd (w : Int32) (j : Nat) : ∃ k : Nat, k < 256 ∧ by1 w j = nI k := pk_andE _ (m := 255) 8 (by decide)
def nz (x : Int32) : Nat := if x = 0 then 0 else 1
/-- how many of the bytes are signs -/
def ctB (q : Nat → Int32) (i j : Nat) : Nat := foldI (fun m a => a + nz (q m)) i j 0
theorem ctB_a (q : Nat → Int32) : ∀ (j i a : Nat), foldI (fun m a => a + nz (q m)) i j a = a + ctB q i j
  | 0, i, a => rfl
  | j + 1, i, a => by
    show foldI _ (i + 1) j (a + nz (q i)) = a + foldI _ (i + 1) j (0 + nz (q i))
    rw [ctB_a q j (i + 1) (a + nz (q i)), ctB_a q j (i + 1) (0 + nz (q i))]
    omega
theorem ctB_s (q : Nat → Int32) (i j : Nat) : ctB q i (j + 1) = nz (q i) + ctB q (i + 1) j := by
  show foldI _ (i + 1) j (0 + nz (q i)) = _
  rw [ctB_a]
  omega
theorem nz_le (x : Int32) : nz x ≤ 1 := by unfold nz; split <;> omega
theorem ctB_le (q : Nat → Int32) : ∀ (j i : Nat), ctB q i j ≤ j
  | 0, i => Nat.le_refl _
  | j + 1, i => by
    rw [ctB_s]
    have := ctB_le q j (i + 1)
    have := nz_le (q i)
    omega
theorem ctB_add (q : Nat → Int32) : ∀ (j i l : Nat), ctB q i (j + l) = ctB q i j + ctB q (i + j) l
  | 0, i, l => by
    rw [Nat.zero_add]
    show _ = 0 + _
    rw [Nat.zero_add, Nat.add_zero]
  | j + 1, i, l => by
    rw [show j + 1 + l = (j + l) + 1 by omega, ctB_s, ctB_s, ctB_add q j (i + 1) l, show i + 1 + j = i + (j + 1) by omega]
    omega
theorem ctB_cg {q q' : Nat → Int32} (a : Nat) : ∀ (j i : Nat), (∀ m, i ≤ m → m < i + j → q' (a + m) = q m) → ctB q' (a + i) j = ctB q i j
  | 0, i, _ => rfl
  | j + 1, i, h => by
    rw [ctB_s, ctB_s, h i (by omega) (by omega), show a + i + 1 = a + (i + 1) by omega, ctB_cg a j (i + 1) (fun m h1 h2 => h m (by omega) (by omega))]
/-- the tape's row behind the bytes -/
def tpB (q : Nat → Int32) : Nat → Nat → Nat × (Nat → Int32) → Nat × (Nat → Int32) := foldI (fun m s => if q m = 0 then s else (s.1 + 1, fun x => if x = s.1 then q m else s.2 x))
theorem tpB_s (q : Nat → Int32) (i j : Nat) (s : Nat × (Nat → Int32)) : tpB q i (j + 1) s = tpB q (i + 1) j (if q i = 0 then s else (s.1 + 1, fun x => if x = s.1 then q i else s.2 x)) := rfl
theorem tpB_1 (q : Nat → Int32) : ∀ (j i : Nat) (s : Nat × (Nat → Int32)), (tpB q i j s).1 = s.1 + ctB q i j
  | 0, _, _ => rfl
  | j + 1, i, s => by
    rw [tpB_s, tpB_1 q j, ctB_s]
    unfold nz
    split <;> omega
theorem tpB_ok (q : Nat → Int32) (hq : ∀ m, q m = 0 ∨ bd 1 255 (q m)) : ∀ (j i : Nat) (s s' : Nat × (Nat → Int32)), s.1 = s'.1 → (∀ x, x < s.1 → s'.2 x = s.2 x ∧ bd 1 255 (s.2 x)) → ∀ x, x < (tpB q i j s).1 → (tpB q i j s').2 x = (tpB q i j s).2 x ∧ bd 1 255 ((tpB q i j s).2 x)
  | 0, _, _, _, _, h => h
  | j + 1, i, s, s', e, h => by
    rw [tpB_s, tpB_s]
    by_cases w : q i = 0
    · rw [if_pos w, if_pos w]
      exact tpB_ok q hq j (i + 1) s s' e h
    · rw [if_neg w, if_neg w]
      refine tpB_ok q hq j (i + 1) _ _ (by show s.1 + 1 = s'.1 + 1; omega) (fun x hx => ?_)
      show (if x = s'.1 then q i else s'.2 x) = (if x = s.1 then q i else s.2 x) ∧ bd 1 255 (if x = s.1 then q i else s.2 x)
      have hx' : x < s.1 + 1 := hx
      rw [← e]
      by_cases w2 : x = s.1
      · rw [if_pos w2, if_pos w2]
        exact ⟨rfl, (hq i).resolve_left w⟩
      · rw [if_neg w2, if_neg w2]
        exact h x (by omega)
theorem tpB_add (q : Nat → Int32) : ∀ (j i l : Nat) (s : Nat × (Nat → Int32)), tpB q i (j + l) s = tpB q (i + j) l (tpB q i j s)
  | 0, i, l, s => by rw [Nat.zero_add]; rfl
  | j + 1, i, l, s => by
    rw [show j + 1 + l = (j + l) + 1 by omega, tpB_s, tpB_s, tpB_add q j (i + 1) l, show i + 1 + j = i + (j + 1) by omega]
theorem tpB_cg {q q' : Nat → Int32} (a : Nat) : ∀ (j i : Nat) (s : Nat × (Nat → Int32)), (∀ m, i ≤ m → m < i + j → q' (a + m) = q m) → tpB q' (a + i) j s = tpB q i j s
  | 0, i, s, _ => rfl
  | j + 1, i, s, h => by
    rw [tpB_s, tpB_s, h i (by omega) (by omega), show a + i + 1 = a + (i + 1) by omega, tpB_cg a j (i + 1) _ (fun m h1 h2 => h m (by omega) (by omega))]
end TA
