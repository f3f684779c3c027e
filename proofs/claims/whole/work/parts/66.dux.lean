/-! a duchy is read: as a plain function, and by the class -/
def fiK (kd : Nat) : Nat := if kd = 0 then 0 else if kd = 1 then 4 else 6
def itF (kd : Nat) (c : Int32) : Nat → Nat → Option Nat
  | 0, _ => none
  | j + 1, i => if mm_tb 8 (fiK kd + i) = c then some i else itF kd c j (i + 1)
def itN (kd : Nat) (c : Int32) : Option Nat := itF kd c (pl_w kd) 0
def kdF (c : Int32) : Nat → Nat → Option Nat
  | 0, _ => none
  | j + 1, i => if mm_tb 7 i = c then some i else kdF c j (i + 1)
def kdN (c : Int32) : Option Nat := kdF c 3 0
def oI (o : Option Nat) : Int32 := match o with
  | none => -1
  | some k => nI k
def alK (kd k v : Nat) : Bool := wi (mm_tb 3 (fiK kd + k)) (nI v) (mm_tb 4 (fiK kd + k))
def plK (kd i : Nat) : Nat := pl_o kd + i * pl_w kd
/-- a value: where it is wrong, or where it ends and what it is -/
def vlP (T : Nat → Int32) (s kd k a : Nat) : Nat ⊕ (Nat × Nat) :=
  if dg (cu T s (sk T s a)) = true then (if dg (cu T s (nmF T s 2 (sk T s a) 0).1) = true then .inl (nmF T s 2 (sk T s a) 0).1 else if alK kd k (nmF T s 2 (sk T s a) 0).2 = true then .inr (nmF T s 2 (sk T s a) 0) else .inl ((nmF T s 2 (sk T s a) 0).1 - 1)) else .inl (sk T s a)
def upV (v : Nat → Int32) (x : Nat) (y : Int32) : Nat → Int32 := fun q => if q = x then y else v q
/-- the items of a clause whose values begin at g -/
def itL (T : Nat → Int32) (s kd g : Nat) : Nat → Nat → Nat → (Nat → Int32) → Nat ⊕ (Nat × (Nat → Int32))
  | 0, a, _, v => .inr (a, v)
  | f + 1, a, fnd, v => match itN kd (cu T s (sk T s a)) with
    | none => .inr (sk T s a, v)
    | some k => if fnd.testBit k = true then .inl (sk T s a) else match vlP T s kd k (sk T s a + 1) with
      | .inl p => .inl p
      | .inr q => itL T s kd g f q.1 (fnd ||| 2 ^ k) (upV v (g + k) (nI q.2))
def dfl (kd i : Nat) (v : Nat → Int32) : Nat → Int32 := fun x => if plK kd i ≤ x ∧ x < plK kd i + pl_w kd then mm_tb 5 (fiK kd + (x - plK kd i)) else v x
def upM (m : Nat → Nat) (x y : Nat) : Nat → Nat := fun q => if q = x then y else m q
def clP (T : Nat → Int32) (s a : Nat) (m : Nat → Nat) (v : Nat → Int32) : Nat ⊕ (Nat × (Nat → Nat) × (Nat → Int32)) := match kdN (cu T s (sk T s a)) with
  | none => .inl (sk T s a)
  | some kd => if m kd < pl_m kd then (match itL T s kd (plK kd (m kd)) (s + 1) (sk T s a + 1) 0 (dfl kd (m kd) v) with
    | .inl p => .inl p
    | .inr q => .inr (q.1, upM m kd (m kd + 1), q.2)) else .inl (sk T s a)
def duP (T : Nat → Int32) (s : Nat) : Nat → Nat → (Nat → Nat) → (Nat → Int32) → Nat ⊕ ((Nat → Nat) × (Nat → Int32))
  | 0, a, _, _ => .inl a
  | f + 1, a, m, v => match clP T s a m v with
    | .inl p => .inl p
    | .inr q => if cu T s (sk T s q.1) = 59 then duP T s f (sk T s q.1 + 1) q.2.1 q.2.2 else if cu T s (sk T s q.1) = -1 ∧ 0 < q.2.1 1 ∧ 0 < q.2.1 2 then .inr q.2 else .inl (sk T s q.1)
theorem itF_lt {kd : Nat} {c : Int32} : ∀ (j i k : Nat), itF kd c j i = some k → i ≤ k ∧ k < i + j ∧ mm_tb 8 (fiK kd + k) = c
  | 0, i, k, h => by cases h
  | j + 1, i, k, h => by
    unfold itF at h
    split at h
    · next q => cases h; exact ⟨by omega, by omega, q⟩
    · have := itF_lt j (i + 1) k h
      exact ⟨by omega, by omega, this.2.2⟩
theorem tb8 : ∀ x, x < 10 → mm_tb 8 x ≠ -1 := by decide
theorem kdF_lt {c : Int32} : ∀ (j i k : Nat), kdF c j i = some k → i ≤ k ∧ k < i + j ∧ mm_tb 7 k = c
  | 0, i, k, h => by cases h
  | j + 1, i, k, h => by
    unfold kdF at h
    split at h
    · next q => cases h; exact ⟨by omega, by omega, q⟩
    · have := kdF_lt j (i + 1) k h
      exact ⟨by omega, by omega, this.2.2⟩
/-- all but the place on the tape and what is read is the same -/
def DXf (M M' : mmM) : Prop := M'.1 = M.1 ∧ M'.2.1 = M.2.1 ∧ M'.2.2.1 = M.2.2.1 ∧ mm_J M' = mm_J M ∧ M'.2.2.2.2.2 = M.2.2.2.2.2 ∧ (∀ b, b ≠ 17 → b ≠ 21 → b ≠ 22 → mm_I M' b = mm_I M b) ∧ ∀ q, q ≠ 2 → mm_I M' 17 q = mm_I M 17 q
section DU
variable {n : Nat} {xs : Nat → Int32} {N : Nat} {M M' M1 M2 : mmM} {T : Nat → Int32} {s a b kd : Nat}
theorem DXf.rf : DXf M M := ⟨rfl, rfl, rfl, rfl, rfl, fun _ _ _ _ => rfl, fun _ _ => rfl⟩
theorem DXf.tr (h : DXf M M1) (g : DXf M1 M2) : DXf M M2 := ⟨g.1.trans h.1, g.2.1.trans h.2.1, g.2.2.1.trans h.2.2.1, g.2.2.2.1.trans h.2.2.2.1, g.2.2.2.2.1.trans h.2.2.2.2.1, fun c h1 h2 h3 => (g.2.2.2.2.2.1 c h1 h2 h3).trans (h.2.2.2.2.2.1 c h1 h2 h3), fun c hc => (g.2.2.2.2.2.2 c hc).trans (h.2.2.2.2.2.2 c hc)⟩
theorem XT.dx (h : XT M M1 a) : DXf M M1 := ⟨h.1, h.2.1, h.2.2.1, h.2.2.2.1, h.2.2.2.2.1, fun b h1 _ _ => h.I h1, h.2.2.2.2.2.2.1⟩
theorem DXf.w21 {k : Nat} {x : Int32} : DXf M (mm_wI M 21 k x) := ⟨rfl, rfl, rfl, rfl, rfl, fun b _ h2 _ => I_wn h2, fun q _ => by rw [I_wn (by decide)]⟩
theorem DXf.w22 {k : Nat} {x : Int32} : DXf M (mm_wI M 22 k x) := ⟨rfl, rfl, rfl, rfl, rfl, fun b _ _ h2 => I_wn h2, fun q _ => by rw [I_wn (by decide)]⟩
theorem DXf.s22 (h : S1 22 M M1) : DXf M M1 := ⟨h.1, h.2.1, h.2.2.1, h.2.2.2.1, h.2.2.2.2.1, fun b _ _ h2 => h.I h2, fun q _ => by rw [h.I (by decide)]⟩
theorem XTp.dx (h : XTp M T s) (g : DXf M M1) : XTp M1 T s := ⟨h.1, by rw [g.2.2.2.2.2.2 1 (by decide)]; exact h.2.1, by rw [g.2.2.2.2.2.1 18 (by decide) (by decide) (by decide)]; exact h.2.2⟩
theorem kd3 (h : kd < 3) : kd = 0 ∨ kd = 1 ∨ kd = 2 := by omega
theorem wi_kd (h : kd < 3) : wi 0 (nI kd) 2 = true := by rcases kd3 h with rfl | rfl | rfl <;> decide
theorem pl_w4 (kd : Nat) : pl_w kd ≤ 4 ∧ 2 ≤ pl_w kd := by unfold pl_w; split <;> omega
theorem fiK10 (h : kd < 3) {k : Nat} (hk : k < pl_w kd) : fiK kd + k < 10 := by rcases kd3 h with rfl | rfl | rfl <;> simp [fiK, pl_w] at * <;> omega
theorem plK40 (h : kd < 3) {i k : Nat} (hi : i < pl_m kd) (hk : k < pl_w kd) : plK kd i + k < 40 := by rcases kd3 h with rfl | rfl | rfl <;> simp [plK, pl_o, pl_w, pl_m] at * <;> omega
theorem E_lineOf (d : Nat) (M : mmM) (h : kd < 3) {k : Nat} (hk : k < pl_w kd) : mm_E n xs N (d + 2) 96 [.int (nI kd), .int (nI k)] M = some (some (.int (nI (fiK kd + k))), M) := by
  have h4 := pl_w4 kd
  have t0 : mm_tb 0 kd = nI (pl_w kd) := by rcases kd3 h with rfl | rfl | rfl <;> rfl
  have t2 : mm_tb 2 kd = nI (fiK kd) := by rcases kd3 h with rfl | rfl | rfl <;> rfl
  rw [u_X10_lineOf, E_isKind d M _, wi_kd h, ra_I, Option.bind_some]
  dsimp only
  rw [if_neg (show ¬ mb true = 0 by decide), if_neg (nI_pos (by omega)), mm_inb_nI h (by omega), cond_true, nI_clamp (by omega), t0, if_pos (nI_lt hk (by omega)), cond_true, t2, nI_add]
theorem L_itB (d : Nat) (h : kd < 3) (c : Int32) : ∀ (j i f : Nat), i + j = pl_w kd → j < f → lp_X10_itemBy n xs N (d + 2) f 19 [some (.int (nI kd)), some (.int c), some (.int (nI (pl_w kd))), some (.int (nI i)), none] [] M = some (some (.int (oI (itF kd c j i))), M) := by
  have h4 := pl_w4 kd
  intro j
  induction j with
  | zero =>
    intro i f hij hf
    obtain ⟨f, rfl⟩ : ∃ g, f = g + 1 := ⟨f - 1, by omega⟩
    rw [lu_X10_itemBy_19, if_pos (nI_le (by omega) (by omega))]
    rfl
  | succ j ih =>
    intro i f hij hf
    obtain ⟨f, rfl⟩ : ∃ g, f = g + 1 := ⟨f - 1, by omega⟩
    have h10 := fiK10 h (show i < pl_w kd by omega)
    rw [lu_X10_itemBy_19, if_neg (nI_ge (show i < pl_w kd by omega) (by omega)), E_lineOf d M h (show i < pl_w kd by omega), ra_I, Option.bind_some]
    dsimp only
    rw [if_neg (nI_ne1 (by omega)), mm_inb_nI h10 (by omega), show (true && Nat.blt 8 16) = true from rfl, cond_true, nI_clamp (by omega), nI_1]
    unfold itF
    by_cases q : mm_tb 8 (fiK kd + i) = c
    · rw [if_pos q, if_pos q]
      rfl
    · rw [if_neg q, if_neg q]
      exact ih (i + 1) f (by omega) (by omega)
theorem E_itemBy (hN : 100 ≤ N) (d : Nat) (M : mmM) (h : kd < 3) (c : Int32) : mm_E n xs N (d + 3) 89 [.int (nI kd), .int c] M = some (some (.int (oI (itN kd c))), M) := by
  have h4 := pl_w4 kd
  have t0 : mm_tb 0 kd = nI (pl_w kd) := by rcases kd3 h with rfl | rfl | rfl <;> rfl
  rw [u_X10_itemBy, E_isKind (d + 1) M _, wi_kd h, ra_I, Option.bind_some]
  dsimp only
  rw [if_neg (show ¬ mb true = 0 by decide), mm_inb_nI h (by omega), cond_true, nI_clamp (by omega), t0]
  exact L_itB (n := n) (xs := xs) (N := N) d h c (pl_w kd) 0 N (by omega) (by omega)
theorem L_kdB (d : Nat) (c : Int32) : ∀ (j i f : Nat), i + j = 3 → j < f → lp_X10_kindBy n xs N d f 2 [some (.int c), some (.int (nI i))] [] M = some (some (.int (oI (kdF c j i))), M) := by
  intro j
  induction j with
  | zero =>
    intro i f hij hf
    obtain ⟨f, rfl⟩ : ∃ g, f = g + 1 := ⟨f - 1, by omega⟩
    rw [lu_X10_kindBy_2, if_pos (show Int32.ofNat 3 ≤ nI i from nI_le (a := 3) (by omega) (by omega))]
    rfl
  | succ j ih =>
    intro i f hij hf
    obtain ⟨f, rfl⟩ : ∃ g, f = g + 1 := ⟨f - 1, by omega⟩
    rw [lu_X10_kindBy_2, if_neg (show ¬ Int32.ofNat 3 ≤ nI i from nI_ge (b := 3) (by omega) (by omega)), mm_inb_nI (show i < 3 by omega) (by omega), show (true && Nat.blt 7 16) = true from rfl, cond_true, nI_clamp (by omega), nI_1]
    unfold kdF
    by_cases q : mm_tb 7 i = c
    · rw [if_pos q, if_pos q]
      rfl
    · rw [if_neg q, if_neg q]
      exact ih (i + 1) f (by omega) (by omega)
theorem E_kindBy (hN : 100 ≤ N) (d : Nat) (M : mmM) (c : Int32) : mm_E n xs N (d + 1) 88 [.int c] M = some (some (.int (oI (kdN c))), M) := by
  rw [u_X10_kindBy]
  exact L_kdB (n := n) (xs := xs) (N := N) d c 3 0 N (by omega) (by omega)
theorem E_isAllowed (d : Nat) (M : mmM) (h : kd < 3) {k : Nat} (hk : k < pl_w kd) (v : Nat) : mm_E n xs N (d + 3) 90 [.int (nI kd), .int (nI k), .int (nI v)] M = some (some (.int (mb (alK kd k v))), M) := by
  have h10 := fiK10 h hk
  rw [u_X10_isAllowed, E_lineOf d M h hk, ra_I, Option.bind_some]
  dsimp only
  rw [if_neg (nI_ne1 (by omega)), mm_inb_nI h10 (by omega), cond_true, cond_true, nI_clamp (by omega), E_isWithin (d + 1) M _ _ _, ra_I, Option.bind_some]
  dsimp only
  show (if mb (alK kd k v) = 0 then _ else _) = _
  cases alK kd k v <;> rfl
theorem E_setX (d : Nat) (M : mmM) (h : kd < 3) {i k : Nat} (hi : i < pl_m kd) (hk : k < pl_w kd) (x : Int32) : mm_E n xs N (d + 3) 93 [.ref 20, .int (nI kd), .int (nI i), .int (nI k), .int x] M = some (none, mm_wI M 21 (plK kd i + k) x) := by
  have h40 := plK40 h hi hk
  have e : pl_o kd + i * pl_w kd + k = plK kd i + k := rfl
  rw [u_X10_set_20, E_placeOf (d + 0) M kd i k h hi hk, e, ra_I, Option.bind_some]
  dsimp only
  rw [if_neg (nI_ne1 (by omega)), mm_inb_nI h40 (by omega), mm_ble (show 16 ≤ 21 by omega), Bool.and_self, cond_true, nI_clamp (by omega)]
theorem E_howM20 (d : Nat) (M : mmM) (h : kd < 3) : mm_E n xs N (d + 2) 86 [.ref 20, .int (nI kd)] M = some (some (.int (mm_I M 22 kd)), M) := by
  rw [u_X10_howMany_20, E_isKind d M _, wi_kd h, ra_I, Option.bind_some]
  dsimp only
  rw [if_neg (show ¬ mb true = 0 by decide), mm_inb_nI h (by omega), cond_true, nI_clamp (by omega)]
theorem pl_m8 (kd : Nat) : pl_m kd ≤ 7 := by unfold pl_m; split <;> (try split) <;> omega
theorem E_full20 (d : Nat) (M : mmM) (h : kd < 3) {m : Nat} (hm : mm_I M 22 kd = nI m) (hm2 : m < 2 ^ 31) : mm_E n xs N (d + 2) 87 [.ref 20, .int (nI kd)] M = some (some (.int (mb (!decide (m < pl_m kd)))), M) := by
  have t1 : mm_tb 1 kd = nI (pl_m kd) := by rcases kd3 h with rfl | rfl | rfl <;> rfl
  have h8 := pl_m8 kd
  rw [u_X10_isFull_20, E_isKind d M _, wi_kd h, ra_I, Option.bind_some]
  dsimp only
  rw [if_neg (show ¬ mb true = 0 by decide), mm_inb_nI h (by omega), cond_true, cond_true, nI_clamp (by omega), hm, t1]
  by_cases q : m < pl_m kd
  · rw [if_pos (nI_lt q (by omega)), decide_eq_true q]; rfl
  · rw [if_neg (nI_nlt (by omega) (by omega)), decide_eq_false q]; rfl
theorem L_fw (d : Nat) (h : kd < 3) {i : Nat} (hi : i < pl_m kd) : ∀ (j k f : Nat) (M : mmM), k + j = pl_w kd → j < f → ∃ M1, lp_X10_fillWithout n xs N (d + 3) f 20 [some (.ref 20), some (.int (nI kd)), some (.int (nI i)), some (.int (nI (pl_w kd))), some (.int (nI k)), none] [] M = some (none, M1) ∧ S1 21 M M1 ∧ ∀ x, mm_I M1 21 x = if plK kd i + k ≤ x ∧ x < plK kd i + pl_w kd then mm_tb 5 (fiK kd + (x - plK kd i)) else mm_I M 21 x := by
  have h4 := pl_w4 kd
  intro j
  induction j with
  | zero =>
    intro k f M hkj hf
    obtain ⟨f, rfl⟩ : ∃ g, f = g + 1 := ⟨f - 1, by omega⟩
    refine ⟨M, ?_, S1.rf, fun x => by rw [if_neg (by omega)]⟩
    rw [lu_X10_fillWithout_20_20, if_pos (nI_le (by omega) (by omega))]
  | succ j ih =>
    intro k f M hkj hf
    obtain ⟨f, rfl⟩ : ∃ g, f = g + 1 := ⟨f - 1, by omega⟩
    have h10 := fiK10 h (show k < pl_w kd by omega)
    obtain ⟨M1, e1, s1, r1⟩ := ih (k + 1) f (mm_wI M 21 (plK kd i + k) (mm_tb 5 (fiK kd + k))) (by omega) (by omega)
    refine ⟨M1, ?_, S1.wI.tr s1, fun x => ?_⟩
    · rw [lu_X10_fillWithout_20_20, if_neg (nI_ge (show k < pl_w kd by omega) (by omega)), E_lineOf (d + 1) M h (show k < pl_w kd by omega), ra_I, Option.bind_some]
      dsimp only
      rw [if_neg (nI_ne1 (by omega)), mm_inb_nI h10 (by omega), cond_true, nI_clamp (by omega), E_setX d M h hi (show k < pl_w kd by omega) _, ra_V, Option.bind_some, nI_1]
      exact e1
    · rw [r1 x, I_s]
      by_cases q : x = plK kd i + k
      · rw [if_neg (by omega), if_pos q, if_pos (by omega), q, show plK kd i + k - plK kd i = k by omega]
      · rw [if_neg q]
        by_cases q2 : plK kd i + (k + 1) ≤ x ∧ x < plK kd i + pl_w kd
        · rw [if_pos q2, if_pos (by omega)]
        · rw [if_neg q2, if_neg (by omega)]
theorem E_fw (hN : 100 ≤ N) (d : Nat) (M : mmM) (h : kd < 3) {i : Nat} (hi : i < pl_m kd) : ∃ M1, mm_E n xs N (d + 4) 92 [.ref 20, .int (nI kd), .int (nI i)] M = some (none, M1) ∧ S1 21 M M1 ∧ mm_I M1 21 = dfl kd i (mm_I M 21) := by
  have h4 := pl_w4 kd
  have t0 : mm_tb 0 kd = nI (pl_w kd) := by rcases kd3 h with rfl | rfl | rfl <;> rfl
  obtain ⟨M1, e1, s1, r1⟩ := L_fw (n := n) (xs := xs) (N := N) d h hi (pl_w kd) 0 N M (by omega) (by omega)
  refine ⟨M1, ?_, s1, ?_⟩
  · rw [u_X10_fillWithout_20, E_isKind (d + 2) M _, wi_kd h, ra_I, Option.bind_some]
    dsimp only
    rw [if_neg (show ¬ mb true = 0 by decide), mm_inb_nI h (by omega), cond_true, nI_clamp (by omega), t0]
    exact e1
  · funext x
    rw [r1 x, Nat.add_zero]
    rfl
theorem DXf.s21 (h : S1 21 M M1) : DXf M M1 := ⟨h.1, h.2.1, h.2.2.1, h.2.2.2.1, h.2.2.2.2.1, fun b _ h2 _ => h.I h2, fun q _ => by rw [h.I (by decide)]⟩
/-- a value, by the class -/
theorem E_valX (hN : 1000 ≤ N) (d : Nat) (h : kd < 3) {i k : Nat} (hi : i < pl_m kd) (hk : k < pl_w kd) (hT : XTp M T s) (ha : mm_I M 17 2 = nI a) (has : a ≤ s) : (∀ p, vlP T s kd k a = .inl p → ∃ M1, mm_E n xs N (d + 6) 15 [.ref 19, .int (nI kd), .int (nI i), .int (nI k)] M = some (some (.int 0), M1) ∧ XT M M1 p) ∧ ∀ q, vlP T s kd k a = .inr q → ∃ M1, mm_E n xs N (d + 6) 15 [.ref 19, .int (nI kd), .int (nI i), .int (nI k)] M = some (some (.int 1), M1) ∧ DXf M M1 ∧ mm_I M1 17 2 = nI q.1 ∧ mm_I M1 22 = mm_I M 22 ∧ mm_I M1 21 = upV (mm_I M 21) (plK kd i + k) (nI q.2) := by
  obtain ⟨M1, e1, x1⟩ := E_lookX (n := n) (xs := xs) (N := N) hN (d + 4) hT ha has
  have hT1 := hT.xt x1
  have hb := sk_le (T := T) has
  have ed := E_dgX (n := n) (xs := xs) (N := N) (d + 4) M1 (cu T s (sk T s a))
  have hs := hT.1
  unfold vlP
  cases hg : dg (cu T s (sk T s a)) with
  | false =>
    rw [hg] at ed
    rw [if_neg (show ¬ false = true by decide)]
    refine ⟨fun p hp => ?_, fun q hq => by cases hq⟩
    cases hp
    refine ⟨M1, ?_, x1⟩
    rw [u_X2_isValueNext, e1, ra_I, Option.bind_some]
    dsimp only
    rw [ed, ra_I, Option.bind_some]
    dsimp only
    rw [if_pos (show mb false = 0 by decide), if_pos rfl]
  | true =>
    rw [hg] at ed
    rw [if_pos rfl]
    obtain ⟨M2, e2, x2⟩ := E_nmX (n := n) (xs := xs) (N := N) hN (d + 3) 2 (by omega) (by omega) hT1 x1.pl hb hg
    have ge := nmF_ge T s 2 (sk T s a) 0 hb
    have gv := nmF_v T s 2 (sk T s a) 0
    by_cases q : dg (cu T s (nmF T s 2 (sk T s a) 0).1) = true
    · rw [if_pos q] at e2 ⊢
      refine ⟨fun p hp => ?_, fun q hq => by cases hq⟩
      cases hp
      refine ⟨M2, ?_, x1.tr x2⟩
      rw [u_X2_isValueNext, e1, ra_I, Option.bind_some]
      dsimp only
      rw [ed, ra_I, Option.bind_some]
      dsimp only
      rw [if_neg (show ¬ mb true = 0 by decide), show (2 : Int32) = nI 2 from rfl, e2, ra_I, Option.bind_some]
      dsimp only
      rw [if_pos rfl]
    · rw [if_neg q] at e2 ⊢
      have ea := E_isAllowed (n := n) (xs := xs) (N := N) (d + 2) M2 h hk (nmF T s 2 (sk T s a) 0).2
      have pre : ∀ R, (if mb (alK kd k (nmF T s 2 (sk T s a) 0).2) = 0 then ((mm_aV (mm_E n xs N (d + 5) 78 [.ref 17] M2)).bind fun p8 => some (some (Value.int 0), p8)) else ((mm_aV (mm_E n xs N (d + 5) 93 [.ref 20, .int (nI kd), .int (nI i), .int (nI k), .int (nI (nmF T s 2 (sk T s a) 0).2)] M2)).bind fun p9 => some (some (Value.int 1), p9))) = R → mm_E n xs N (d + 6) 15 [.ref 19, .int (nI kd), .int (nI i), .int (nI k)] M = R := by
        intro R hR
        rw [← hR, u_X2_isValueNext, e1, ra_I, Option.bind_some]
        dsimp only
        rw [ed, ra_I, Option.bind_some]
        dsimp only
        rw [if_neg (show ¬ mb true = 0 by decide), show (2 : Int32) = nI 2 from rfl, e2, ra_I, Option.bind_some]
        dsimp only
        rw [if_neg (nI_ne1 (by omega)), ea, ra_I, Option.bind_some]
      cases hal : alK kd k (nmF T s 2 (sk T s a) 0).2 with
      | false =>
        rw [hal] at pre
        rw [if_neg (show ¬ false = true by decide)]
        refine ⟨fun p hp => ?_, fun q hq => by cases hq⟩
        cases hp
        have g1 : 1 ≤ (nmF T s 2 (sk T s a) 0).1 := by
          have e5 : nmF T s 2 (sk T s a) 0 = nmF T s 1 (sk T s a + 1) (10 * 0 + ((cu T s (sk T s a)).toNatClampNeg - 48)) := by
            show (if dg (cu T s (sk T s a)) = true then _ else _) = _
            rw [if_pos hg]
          have hlt : sk T s a < s := by
            apply Decidable.byContradiction
            intro w
            rw [cu_out (by omega), dg_m1] at hg
            cases hg
          have := (nmF_ge T s 1 (sk T s a + 1) (10 * 0 + ((cu T s (sk T s a)).toNatClampNeg - 48)) (by omega)).1
          rw [e5]
          omega
        refine ⟨mm_wI M2 17 2 (nI ((nmF T s 2 (sk T s a) 0).1 - 1)), pre _ ?_, (x1.tr x2).tr XT.w⟩
        rw [if_pos (show mb false = 0 by decide), u_X9_stepBack, x2.pl, nI_m1 (by omega), ra_V, Option.bind_some]
      | true =>
        rw [hal] at pre
        rw [if_pos rfl]
        refine ⟨fun p hp => (by cases hp), fun q hq => ?_⟩
        cases hq
        refine ⟨mm_wI M2 21 (plK kd i + k) (nI (nmF T s 2 (sk T s a) 0).2), pre _ ?_, (x1.tr x2).dx.tr DXf.w21, ?_, ?_, ?_⟩
        · rw [if_neg (show ¬ mb true = 0 by decide), E_setX (d + 2) M2 h hi hk _, ra_V, Option.bind_some]
        · rw [I_wn (by decide)]; exact x2.pl
        · rw [I_wn (by decide), (x1.tr x2).I (by decide)]
        · funext x
          rw [I_s, (x1.tr x2).I (by decide)]
          rfl
end DU
