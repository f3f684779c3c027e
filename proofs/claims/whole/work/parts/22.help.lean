/-! sums over those inside, folding, sinking -/
/-- the bit of minister m in a set -/
def ib (s : Int32) (m : Nat) : Bool := decide (((s >>> (nI m &&& 31)) &&& 1) = 1)
theorem and1 (x : Int32) : x &&& 1 = 0 ∨ x &&& 1 = 1 := by
  obtain ⟨j, hj, e⟩ := pk_andE x (m := 1) 1 (by decide)
  rcases (show j = 0 ∨ j = 1 by omega) with rfl | rfl
  · exact Or.inl e
  · exact Or.inr e
theorem ib_ne (s : Int32) (m : Nat) : (((s >>> (nI m &&& 31)) &&& 1) = 0) = (ib s m = false) := by
  unfold ib
  rcases and1 (s >>> (nI m &&& 31)) with h | h <;> rw [h] <;> decide
/-- from i on, j steps -/
def foldI {α : Type} (g : Nat → α → α) : Nat → Nat → α → α
  | _, 0, a => a
  | i, j + 1, a => foldI g (i + 1) j (g i a)
theorem foldI_congr {α : Type} {g h : Nat → α → α} : ∀ (j i : Nat) (a : α), (∀ m a, i ≤ m → m < i + j → g m a = h m a) → foldI g i j a = foldI h i j a
  | 0, _, _, _ => rfl
  | j + 1, i, a, e => by
    unfold foldI
    rw [e i a (Nat.le_refl _) (by omega)]
    exact foldI_congr j (i + 1) _ (fun m b h1 h2 => e m b (by omega) (by omega))
def sumG (s : Int32) (f : Nat → Int32) : Nat → Int32 → Int32 := fun m a => a + (if ib s m = true then f m else 0)
def sumIn (s : Int32) (f : Nat → Int32) (k : Nat) : Int32 := foldI (sumG s f) 0 k 0
theorem sumIn_congr {s : Int32} {f g : Nat → Int32} {k : Nat} (h : ∀ m, m < k → f m = g m) : sumIn s f k = sumIn s g k :=
  foldI_congr k 0 0 (fun m a _ h2 => by unfold sumG; rw [h m (by omega)])
theorem t_add {a b : Int32} (h1 : -2 ^ 31 ≤ a.toInt + b.toInt) (h2 : a.toInt + b.toInt < 2 ^ 31) : (a + b).toInt = a.toInt + b.toInt := by
  rw [Int32.toInt_add]
  exact Int.bmod_eq_of_le (by omega) (by omega)
theorem t_sub {a b : Int32} (h1 : -2 ^ 31 ≤ a.toInt - b.toInt) (h2 : a.toInt - b.toInt < 2 ^ 31) : (a - b).toInt = a.toInt - b.toInt := by
  rw [Int32.toInt_sub]
  exact Int.bmod_eq_of_le (by omega) (by omega)
theorem t_mul {a b : Int32} (h1 : -2 ^ 31 ≤ a.toInt * b.toInt) (h2 : a.toInt * b.toInt < 2 ^ 31) : (a * b).toInt = a.toInt * b.toInt := by
  rw [Int32.toInt_mul]
  exact Int.bmod_eq_of_le (by omega) (by omega)
theorem foldS_bd {s : Int32} {f : Nat → Int32} {b : Nat} : ∀ (j i : Nat) (a : Int32) (c : Nat), c + j * b ≤ 1000000 → bd 0 c a → (∀ m, i ≤ m → m < i + j → bd 0 b (f m)) → bd 0 (c + j * b : Nat) (foldI (sumG s f) i j a)
  | 0, i, a, c, _, ha, _ => by unfold foldI; simpa using ha
  | j + 1, i, a, c, hc, ha, h => by
    rw [Nat.succ_mul] at hc ⊢
    unfold foldI
    have hf := h i (Nat.le_refl _) (by omega)
    have ha2 : bd 0 (c + b : Nat) (sumG s f i a) := by
      unfold sumG
      unfold bd at ha hf ⊢
      by_cases hi : ib s i = true
      · rw [if_pos hi, t_add (by omega) (by omega)]; omega
      · rw [if_neg hi, Int32.add_zero]; omega
    have := foldS_bd (s := s) (f := f) (b := b) j (i + 1) (sumG s f i a) (c + b) (by omega) ha2 (fun m h1 h2 => h m (by omega) (by omega))
    rw [show c + (j * b + b) = c + b + j * b by omega]
    exact this
theorem sumIn_bd {s : Int32} {f : Nat → Int32} {b k : Nat} (hc : k * b ≤ 1000000) (h : ∀ m, m < k → bd 0 b (f m)) : bd 0 (k * b : Nat) (sumIn s f k) := by
  have := foldS_bd (s := s) (f := f) (b := b) k 0 0 0 (by omega) (by unfold bd; decide) (fun m _ h2 => h m (by omega))
  rwa [Nat.zero_add] at this
section HS
variable {n : Nat} {xs : Nat → Int32} {N : Nat} {nc nm : Nat} {M : mmM}
theorem E_isInside (d : Nat) (M : mmM) (m : Nat) : mm_E n xs N (d + 1) 111 [.ref 16, .int (nI m)] M = some (some (.int (mb (ib (mm_I M 35 2) m))), M) := by
  rw [u_X11_isInside]
  simp only [ib_ne]
  cases ib (mm_I M 35 2) m <;> rfl
theorem E_has (d : Nat) (M : mmM) (s : Int32) (m : Nat) : mm_E n xs N (d + 1) 180 [.int s, .int (nI m)] M = some (some (.int (mb (ib s m))), M) := by
  rw [u_X12_has]
  unfold ib
  by_cases h : ((s >>> (nI m &&& 31)) &&& 1) = 1
  · rw [if_pos h, decide_eq_true h]; rfl
  · rw [if_neg h, decide_eq_false h]; rfl
theorem hM2 (d : Nat) (h : RT M nc nm) : mm_E n xs N (d + 2) 86 [.ref 32, .int 2] M = some (some (.int (nI nm)), M) := by
  have hm := E_howMany (n := n) (xs := xs) (N := N) d M 2 (by omega)
  rw [h.2.2.2.2.2.1] at hm
  exact hm
theorem hM1 (d : Nat) (h : RT M nc nm) : mm_E n xs N (d + 2) 86 [.ref 32, .int 1] M = some (some (.int (nI nc)), M) := by
  have hm := E_howMany (n := n) (xs := xs) (N := N) d M 1 (by omega)
  rw [h.2.2.2.2.1] at hm
  exact hm
theorem L_sumInside (d : Nat) (h : RT M nc nm) (w : Nat) (hw : w < 4) : ∀ (j i f : Nat) (acc : Int32), i + j = nm → j < f → lp_X11_sumInside n xs N (d + 3) f 4 [some (.ref 16), some (.int (nI w)), some (.int acc), some (.int (nI i))] [] M = some (some (.int (foldI (sumG (mm_I M 35 2) (fun m => mm_I M 33 (12 + m * 4 + w))) i j acc)), M) := by
  intro j
  have hnm := h.2.1
  induction j with
  | zero =>
    intro i f acc hij hf
    obtain ⟨f, rfl⟩ : ∃ g, f = g + 1 := ⟨f - 1, by omega⟩
    rw [lu_X11_sumInside_4, hM2 (d + 1) h, ra_I]
    simp only [Option.bind_some]
    rw [if_pos (nI_le (by omega) (by omega))]
    rfl
  | succ j ih =>
    intro i f acc hij hf
    obtain ⟨f, rfl⟩ : ∃ g, f = g + 1 := ⟨f - 1, by omega⟩
    rw [lu_X11_sumInside_4, hM2 (d + 1) h, ra_I]
    simp only [Option.bind_some]
    rw [if_neg (nI_ge (show i < nm by omega) (by omega)), E_isInside, ra_I]
    simp only [Option.bind_some, mb_0, nI_1]
    unfold foldI
    cases hb : ib (mm_I M 35 2) i with
    | false =>
      rw [if_pos rfl, ih (i + 1) f _ (by omega) (by omega)]
      unfold sumG
      rw [hb]
      rfl
    | true =>
      rw [if_neg (by decide), E_minI d M i w (by omega) hw, ra_I]
      simp only [Option.bind_some]
      rw [ih (i + 1) f _ (by omega) (by omega)]
      unfold sumG
      rw [hb]
      rfl
theorem E_sumInside (d : Nat) (h : RT M nc nm) (hN : 100 ≤ N) (w : Nat) (hw : w < 4) : mm_E n xs N (d + 4) 112 [.ref 16, .int (nI w)] M = some (some (.int (sumIn (mm_I M 35 2) (fun m => mm_I M 33 (12 + m * 4 + w)) nm)), M) := by
  have hnm := h.2.1
  rw [u_X11_sumInside]
  exact L_sumInside (n := n) (xs := xs) (N := N) d h w hw nm 0 N 0 (by omega) (by omega)
/-- the model's sums -/
theorem L_weightIn (d : Nat) (h : RT M nc nm) : ∀ (j i f : Nat) (acc : Int32), i + j = nm → j < f → lp_X12_weightIn n xs N (d + 1) f 4 [some (.ref 60), some (.int acc), some (.int (nI i))] [] M = some (some (.int (foldI (sumG (mm_I M 77 10) (fun m => mm_I M 76 (4 * m + 0))) i j acc)), M) := by
  intro j
  have hnm := h.2.1
  induction j with
  | zero =>
    intro i f acc hij hf
    obtain ⟨f, rfl⟩ : ∃ g, f = g + 1 := ⟨f - 1, by omega⟩
    rw [lu_X12_weightIn_4, h.2.2.2.2.2.2.2.1, if_pos (nI_le (by omega) (by omega))]
    rfl
  | succ j ih =>
    intro i f acc hij hf
    obtain ⟨f, rfl⟩ : ∃ g, f = g + 1 := ⟨f - 1, by omega⟩
    rw [lu_X12_weightIn_4, h.2.2.2.2.2.2.2.1, if_neg (nI_ge (show i < nm by omega) (by omega)), E_has, ra_I]
    simp only [Option.bind_some, mb_0, nI_1]
    unfold foldI
    cases hb : ib (mm_I M 77 10) i with
    | false =>
      rw [if_pos rfl, ih (i + 1) f _ (by omega) (by omega)]
      unfold sumG
      rw [hb]
      rfl
    | true =>
      rw [if_neg (by decide), show (Value.int (0 : Int32)) = Value.int (nI 0) from rfl, E_of d M i 0 (by omega) (by omega), ra_I]
      simp only [Option.bind_some]
      rw [ih (i + 1) f _ (by omega) (by omega)]
      unfold sumG
      rw [hb]
      rfl
theorem L_worthIn (d : Nat) (h : RT M nc nm) : ∀ (j i f : Nat) (acc : Int32), i + j = nm → j < f → lp_X12_worthIn n xs N (d + 1) f 4 [some (.ref 60), some (.int acc), some (.int (nI i))] [] M = some (some (.int (foldI (sumG (mm_I M 77 10) (fun m => mm_I M 76 (4 * m + 1))) i j acc)), M) := by
  intro j
  have hnm := h.2.1
  induction j with
  | zero =>
    intro i f acc hij hf
    obtain ⟨f, rfl⟩ : ∃ g, f = g + 1 := ⟨f - 1, by omega⟩
    rw [lu_X12_worthIn_4, h.2.2.2.2.2.2.2.1, if_pos (nI_le (by omega) (by omega))]
    rfl
  | succ j ih =>
    intro i f acc hij hf
    obtain ⟨f, rfl⟩ : ∃ g, f = g + 1 := ⟨f - 1, by omega⟩
    rw [lu_X12_worthIn_4, h.2.2.2.2.2.2.2.1, if_neg (nI_ge (show i < nm by omega) (by omega)), E_has, ra_I]
    simp only [Option.bind_some, mb_0, nI_1]
    unfold foldI
    cases hb : ib (mm_I M 77 10) i with
    | false =>
      rw [if_pos rfl, ih (i + 1) f _ (by omega) (by omega)]
      unfold sumG
      rw [hb]
      rfl
    | true =>
      rw [if_neg (by decide), show (Value.int (1 : Int32)) = Value.int (nI 1) from rfl, E_of d M i 1 (by omega) (by omega), ra_I]
      simp only [Option.bind_some]
      rw [ih (i + 1) f _ (by omega) (by omega)]
      unfold sumG
      rw [hb]
      rfl
/-- what those inside weigh, what they are worth -/
def wgt (M : mmM) (nm : Nat) : Int32 := sumIn (mm_I M 35 2) (fun m => mm_I M 33 (12 + m * 4 + 0)) nm
def wth (M : mmM) (nm : Nat) : Int32 := sumIn (mm_I M 35 2) (fun m => mm_I M 33 (12 + m * 4 + 1)) nm
theorem E_weightX (d : Nat) (h : RT M nc nm) (hN : 100 ≤ N) : mm_E n xs N (d + 4) 112 [.ref 16, .int 0] M = some (some (.int (wgt M nm)), M) := E_sumInside d h hN 0 (by omega)
theorem E_worthX (d : Nat) (h : RT M nc nm) (hN : 100 ≤ N) : mm_E n xs N (d + 4) 112 [.ref 16, .int 1] M = some (some (.int (wth M nm)), M) := E_sumInside d h hN 1 (by omega)
theorem E_weightM (d : Nat) (h : RT M nc nm) (hb : mm_I M 77 10 = mm_I M 35 2) (hN : 100 ≤ N) : mm_E n xs N (d + 2) 229 [.ref 60] M = some (some (.int (wgt M nm)), M) := by
  have hnm := h.2.1
  rw [u_X12_weightIn]
  have := L_weightIn (n := n) (xs := xs) (N := N) d h nm 0 N 0 (by omega) (by omega)
  refine this.trans ?_
  rw [hb]
  have e : sumIn (mm_I M 35 2) (fun m => mm_I M 76 (4 * m + 0)) nm = wgt M nm := sumIn_congr (fun m hm => h.2.2.2.2.2.2.2.2.2.2.1 m 0 hm (by omega))
  rw [← e]
  rfl
theorem E_worthM (d : Nat) (h : RT M nc nm) (hb : mm_I M 77 10 = mm_I M 35 2) (hN : 100 ≤ N) : mm_E n xs N (d + 2) 230 [.ref 60] M = some (some (.int (wth M nm)), M) := by
  have hnm := h.2.1
  rw [u_X12_worthIn]
  have := L_worthIn (n := n) (xs := xs) (N := N) d h nm 0 N 0 (by omega) (by omega)
  refine this.trans ?_
  rw [hb]
  have e : sumIn (mm_I M 35 2) (fun m => mm_I M 76 (4 * m + 1)) nm = wth M nm := sumIn_congr (fun m hm => h.2.2.2.2.2.2.2.2.2.2.1 m 1 hm (by omega))
  rw [← e]
  rfl
end HS
