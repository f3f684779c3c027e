/-! the objects are made -/
def imo (M : mmM) (o : Nat × Nat × Nat × Nat) : mmM := match o.1 with
  | 0 => mm_new M (.inl o.2.1) o.2.2.1
  | 1 => mm_new M (.inr (o.2.1, o.2.2.1)) o.2.2.1
  | 2 => mm_wP M o.2.1 o.2.2.1 (some o.2.2.2)
  | 3 => mm_wI M o.2.1 o.2.2.1 2
  | _ => mm_wI M o.2.1 o.2.2.1 (-1)
def imo_l : List (Nat × Nat × Nat × Nat) := [(0, 11, 19, 0), (0, 9, 3, 0), (1, 0, 240, 0), (2, 17, 0, 18), (2, 16, 0, 17), (0, 2, 2, 0), (0, 10, 2, 0), (1, 0, 40, 0), (2, 20, 0, 21), (1, 0, 3, 0), (2, 20, 1, 22), (2, 19, 1, 20), (2, 19, 0, 17), (2, 16, 1, 19), (0, 3, 3, 0), (1, 0, 240, 0), (2, 23, 1, 24), (2, 23, 0, 17), (2, 16, 2, 23), (0, 4, 11, 0), (1, 5, 4, 0), (1, 0, 0, 0), (1, 0, 0, 0), (1, 0, 0, 0), (1, 0, 0, 0), (2, 26, 0, 27), (2, 26, 1, 28), (2, 26, 2, 29), (2, 26, 3, 30), (2, 25, 0, 26), (4, 25, 2, 0), (1, 0, 64, 0), (2, 25, 3, 31), (2, 16, 3, 25), (0, 10, 2, 0), (1, 0, 40, 0), (2, 32, 0, 33), (1, 0, 3, 0), (2, 32, 1, 34), (2, 16, 4, 32), (0, 0, 11, 0), (1, 0, 4, 0), (2, 35, 9, 36), (1, 0, 4, 0), (2, 35, 10, 37), (2, 16, 5, 35), (0, 6, 3, 0), (1, 4, 40, 0), (2, 38, 0, 39), (2, 16, 6, 38), (0, 5, 1, 0), (1, 0, 300, 0), (2, 40, 0, 41), (2, 16, 7, 40), (0, 0, 11, 0), (1, 0, 4, 0), (2, 42, 9, 43), (1, 0, 4, 0), (2, 42, 10, 44), (2, 16, 8, 42), (0, 5, 1, 0), (1, 0, 300, 0), (2, 45, 0, 46), (2, 16, 9, 45), (0, 8, 5, 0), (1, 0, 10, 0), (2, 47, 0, 48), (1, 0, 10, 0), (2, 47, 1, 49), (1, 0, 10, 0), (2, 47, 2, 50), (1, 1, 10, 0), (2, 47, 3, 51), (2, 16, 10, 47), (0, 7, 5, 0), (1, 0, 128, 0), (2, 52, 2, 53), (1, 0, 128, 0), (2, 52, 3, 54), (1, 0, 128, 0), (2, 52, 4, 55), (2, 52, 0, 32), (2, 52, 1, 35), (2, 16, 11, 52), (0, 1, 1, 0), (2, 16, 12, 56), (1, 0, 5, 0), (2, 16, 13, 57), (1, 0, 10, 0), (2, 16, 14, 58), (1, 0, 36, 0), (2, 16, 15, 59), (3, 16, 18, 0), (0, 12, 46, 0), (1, 0, 240, 0), (2, 60, 1, 61), (1, 0, 2600, 0), (2, 60, 6, 62), (1, 0, 2600, 0), (2, 60, 7, 63), (1, 0, 5, 0), (2, 60, 8, 64), (1, 0, 5, 0), (2, 60, 9, 65), (1, 0, 700, 0), (2, 60, 10, 66), (1, 0, 700, 0), (2, 60, 11, 67), (1, 0, 700, 0), (2, 60, 12, 68), (1, 0, 6, 0), (2, 60, 15, 69), (1, 0, 80, 0), (2, 60, 16, 70), (1, 0, 4, 0), (2, 60, 17, 71), (1, 0, 8, 0), (2, 60, 18, 72), (1, 0, 28, 0), (2, 60, 19, 73), (1, 0, 4, 0), (2, 60, 22, 74), (1, 0, 8, 0), (2, 60, 23, 75), (1, 0, 28, 0), (2, 60, 24, 76), (1, 0, 198, 0), (2, 60, 27, 77), (1, 0, 5, 0), (2, 60, 28, 78), (4, 60, 29, 0), (3, 60, 30, 0), (1, 0, 7920, 0), (2, 60, 31, 79), (1, 0, 170, 0), (2, 60, 34, 80), (1, 0, 10, 0), (2, 60, 39, 81), (1, 0, 10, 0), (2, 60, 40, 82), (1, 0, 10, 0), (2, 60, 41, 83), (1, 1, 10, 0), (2, 60, 42, 84), (1, 0, 198, 0), (2, 60, 44, 85), (1, 3, 1, 0)]
def mm_M1 : mmM := imo_l.foldl imo mm_M0
set_option maxRecDepth 1000000 in
theorem ini_ex (n : Nat) (xs : Nat → Int32) (N d : Nat) (j : mmG) : mm_ex (mm_Y0 n xs) (mm_ev (mm_Y0 n xs) mm_prog N (d + 8)) lw_cs j 1200 (mm_at 0 cd_law) [some (.ref 9), none, none, none, none, none, none] [] mm_M0 = j 23 [some (.ref 9), some (.ref 16), some (.ref 60), some (.ref 86), some (.int 0), none, none] [] mm_M1 := rfl
theorem imo_ind {P : mmM → Prop} {c : Nat × Nat × Nat × Nat → Bool} (h : ∀ M o, P M → c o = true → P (imo M o)) : ∀ (l : List (Nat × Nat × Nat × Nat)) (M : mmM), l.all c = true → P M → P (l.foldl imo M)
  | [], _, _, hM => hM
  | o :: l, M, hc, hM => by
    rw [List.all_cons, Bool.and_eq_true] at hc
    exact imo_ind h l (imo M o) hc.2 (h M o hM hc.1)
theorem imo_k (M : mmM) (o : Nat × Nat × Nat × Nat) : (o.1 = 0 ∧ imo M o = mm_new M (.inl o.2.1) o.2.2.1) ∨ (o.1 = 1 ∧ imo M o = mm_new M (.inr (o.2.1, o.2.2.1)) o.2.2.1) ∨ (o.1 = 2 ∧ imo M o = mm_wP M o.2.1 o.2.2.1 (some o.2.2.2)) ∨ (o.1 = 3 ∧ imo M o = mm_wI M o.2.1 o.2.2.1 2) ∨ (4 ≤ o.1 ∧ imo M o = mm_wI M o.2.1 o.2.2.1 (-1)) := by
  obtain ⟨k, o⟩ := o
  rcases k with _ | _ | _ | _ | k
  · exact Or.inl ⟨rfl, rfl⟩
  · exact Or.inr (Or.inl ⟨rfl, rfl⟩)
  · exact Or.inr (Or.inr (Or.inl ⟨rfl, rfl⟩))
  · exact Or.inr (Or.inr (Or.inr (Or.inl ⟨rfl, rfl⟩)))
  · exact Or.inr (Or.inr (Or.inr (Or.inr ⟨by simp, rfl⟩)))
def ini_e (a k : Nat) : Bool := (a == 25 && k == 2) || (a == 60 && k == 29) || (a == 60 && k == 30) || (a == 16 && k == 18)
theorem ini_I : ∀ a k, ini_e a k = false → mm_I mm_M1 a k = 0 := by
  refine imo_ind (P := fun M => ∀ a k, ini_e a k = false → mm_I M a k = 0) (c := fun o => Nat.blt o.1 3 || ini_e o.2.1 o.2.2.1) (fun M o hM hc => ?_) imo_l mm_M0 (by decide +kernel) (fun _ _ _ => rfl)
  intro a k hk
  have hnew : ∀ (s : mmSh) (w : Nat), mm_I (mm_new M s w) a k = 0 := fun s w => by
    show mm_row _ _ _ a k = 0
    unfold mm_row
    split
    · rfl
    · exact hM a k hk
  have hw : ∀ v : Int32, ini_e o.2.1 o.2.2.1 = true → mm_I (mm_wI M o.2.1 o.2.2.1 v) a k = 0 := fun v hv => by
    show mm_up _ _ _ _ a k = 0
    unfold mm_up
    split
    · rename_i h1
      split
      · rename_i h2; rw [h1, h2, hv] at hk; cases hk
      · exact hM a k hk
    · exact hM a k hk
  rcases imo_k M o with ⟨e, h⟩ | ⟨e, h⟩ | ⟨e, h⟩ | ⟨e, h⟩ | ⟨e, h⟩
  · rw [h]; exact hnew _ _
  · rw [h]; exact hnew _ _
  · rw [h]; exact hM a k hk
  · rw [h]; refine hw _ ?_; rw [e] at hc; simpa using hc
  · rw [h]; refine hw _ ?_
    rcases (Bool.or_eq_true _ _).mp hc with q | q
    · have := Nat.blt_eq.mp q; omega
    · exact q
theorem ini_P : ∀ a k b, mm_M1.2.2.2.2.2 a k = some b → b < 87 := by
  refine imo_ind (P := fun M => ∀ a k b, M.2.2.2.2.2 a k = some b → b < 87) (c := fun o => !Nat.beq o.1 2 || Nat.blt o.2.2.2 87) (fun M o hM hc => ?_) imo_l mm_M0 (by decide +kernel) (fun _ _ _ h => by cases h)
  intro a k b hb
  have hnew : ∀ (s : mmSh) (w : Nat), (mm_new M s w).2.2.2.2.2 a k = some b → b < 87 := fun s w h => by
    have h : mm_row _ _ _ a k = some b := h
    unfold mm_row at h
    split at h
    · cases h
    · exact hM a k b h
  rcases imo_k M o with ⟨e, h⟩ | ⟨e, h⟩ | ⟨e, h⟩ | ⟨e, h⟩ | ⟨e, h⟩
  · rw [h] at hb; exact hnew _ _ hb
  · rw [h] at hb; exact hnew _ _ hb
  · rw [h] at hb
    have hb : mm_up _ _ _ _ a k = some b := hb
    unfold mm_up at hb
    split at hb
    · split at hb
      · cases hb
        rw [e] at hc
        exact Nat.blt_eq.mp (by simpa using hc)
      · exact hM _ _ _ hb
    · exact hM _ _ _ hb
  · rw [h] at hb; exact hM _ _ _ hb
  · rw [h] at hb; exact hM _ _ _ hb
theorem ini_39 : ∀ k, mm_M1.2.2.2.2.2 39 k = none := by
  refine imo_ind (P := fun M => ∀ k, M.2.2.2.2.2 39 k = none) (c := fun o => !Nat.beq o.1 2 || !Nat.beq o.2.1 39) (fun M o hM hc => ?_) imo_l mm_M0 (by decide +kernel) (fun _ => rfl)
  intro k
  have hnew : ∀ (s : mmSh) (w : Nat), (mm_new M s w).2.2.2.2.2 39 k = none := fun s w => by
    show mm_row _ _ _ 39 k = none
    unfold mm_row
    split
    · rfl
    · exact hM k
  rcases imo_k M o with ⟨e, h⟩ | ⟨e, h⟩ | ⟨e, h⟩ | ⟨e, h⟩ | ⟨e, h⟩
  · rw [h]; exact hnew _ _
  · rw [h]; exact hnew _ _
  · rw [h]
    show mm_up _ _ _ _ 39 k = none
    unfold mm_up
    split
    · rename_i h1; rw [e, ← h1] at hc; cases hc
    · exact hM k
  · rw [h]; exact hM k
  · rw [h]; exact hM k
theorem ini_n : mm_M1.2.1 = 87 := by decide +kernel
theorem ini_z : mm_M1.2.2.1 = 48139 := by decide +kernel
theorem ini_sh0 : ∀ a, a < 87 → 16 ≤ a → mm_M1.1 a = (mm_T0 0).getD a (.inl 99) := by decide +kernel
theorem ini_T0 (n b : Nat) : (mm_T0 n).getD (b + 16) (.inl 99) = (mm_T0 0).getD (b + 16) (.inl 99) := rfl
theorem ini_sh {n a : Nat} (h1 : 16 ≤ a) (h2 : a < 87) : mm_M1.1 a = (mm_T0 n).getD a (.inl 99) := by
  obtain ⟨b, rfl⟩ : ∃ b, a = b + 16 := ⟨a - 16, by omega⟩
  exact (ini_sh0 _ h2 h1).trans (ini_T0 n b).symm
theorem look_in : ∀ (l : List (Nat × Option Nat)) (k : Nat) (r : Option Nat), mm_look l k = some r → (k, r) ∈ l
  | [], _, _, h => by cases h
  | q :: l, k, r, h => by
    unfold mm_look at h
    cases hq : Nat.beq q.1 k with
    | true =>
      rw [hq] at h
      have e1 := Nat.eq_of_beq_eq_true hq
      cases h
      rw [← e1]
      exact List.mem_cons_self
    | false =>
      rw [hq] at h
      exact List.mem_cons_of_mem _ (look_in l k r h)
theorem ini_f0 : ∀ a, a < 87 → ∀ q ∈ mm_P0.getD a [], mm_M1.2.2.2.2.2 a q.1 = q.2 := by decide +kernel
theorem ini_fx {n : Nat} {xs : Nat → Int32} {a k : Nat} (h : a < 87) : mm_p (mm_Y n xs) mm_M1 a k = mm_M1.2.2.2.2.2 a k := by
  unfold mm_p mm_fx
  rw [show Nat.blt a (mm_Y n xs).1 = true from Nat.blt_eq.mpr h, cond_true]
  cases hl : (mm_Y n xs).2.2.1 a k with
  | none => rfl
  | some r => exact (ini_f0 a h _ (look_in _ k r hl)).symm
theorem ini_26 {n : Nat} {xs : Nat → Int32} : ∀ j, j < 4 → mm_p (mm_Y n xs) mm_M1 26 j = some (27 + j) := by
  have h : ∀ j, j < 4 → mm_M1.2.2.2.2.2 26 j = some (27 + j) := by decide +kernel
  intro j hj
  rw [ini_fx (by decide)]
  exact h j hj
theorem ini_v : mm_I mm_M1 25 2 = -1 ∧ mm_I mm_M1 60 29 = -1 ∧ mm_I mm_M1 16 18 = 2 ∧ mm_I mm_M1 60 30 = 2 := by
  refine ⟨?_, ?_, ?_, ?_⟩ <;> decide +kernel
