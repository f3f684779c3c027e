/-! cells: what a write does to them -/
theorem mm_up_same {α : Type} (f : Nat → Nat → α) (a k : Nat) (v : α) : mm_up f a k v a k = v := by simp [mm_up]
theorem mm_up_ne {α : Type} (f : Nat → Nat → α) {a b : Nat} (k : Nat) (v : α) (h : b ≠ a) : mm_up f a k v b = f b := by
  funext j
  simp [mm_up, h]
theorem mm_up_nk {α : Type} (f : Nat → Nat → α) (a : Nat) {k j : Nat} (v : α) (h : j ≠ k) : mm_up f a k v a j = f a j := by simp [mm_up, h]
theorem mm_up_upd (f : Nat → Nat → Int32) (a k : Nat) (v : Int32) : mm_up f a k v a = upd (f a) k v := by
  funext j
  simp [mm_up, upd]
theorem mm_up_updL (f : Nat → Nat → Int64) (a k : Nat) (v : Int64) : mm_up f a k v a = vp_updL (f a) k v := by
  funext j
  simp [mm_up, vp_updL]
theorem mm_row_same {α : Type} (f : Nat → Nat → α) (a : Nat) (r : Nat → α) : mm_row f a r a = r := by simp [mm_row]
theorem mm_row_ne {α : Type} (f : Nat → Nat → α) {a b : Nat} (r : Nat → α) (h : b ≠ a) : mm_row f a r b = f b := by simp [mm_row, h]
theorem mm_p_wP {Y : mmY} {M : mmM} {a b k : Nat} {v : Option Nat} (h : b ≠ a) (j : Nat) : mm_p Y (mm_wP M a k v) b j = mm_p Y M b j := by
  unfold mm_p
  cases mm_fx Y b j with
  | some r => rfl
  | none => simp only [mm_up_ne _ _ _ h]
theorem mm_p_wP_same {Y : mmY} {M : mmM} {a k : Nat} {v : Option Nat} (hf : mm_free Y a k = true) : mm_p Y (mm_wP M a k v) a k = v := by
  unfold mm_free at hf
  unfold mm_p
  cases h : mm_fx Y a k with
  | some r => rw [h] at hf; cases hf
  | none => simp only [mm_up_same]
theorem mm_p_wP_nk {Y : mmY} {M : mmM} {a k j : Nat} {v : Option Nat} (h : j ≠ k) : mm_p Y (mm_wP M a k v) a j = mm_p Y M a j := by
  unfold mm_p
  cases mm_fx Y a j with
  | some r => rfl
  | none => simp only [mm_up_nk _ _ _ h]
theorem mm_cell_congr {cA : Nat → ClassId} {ρ ρ' : Nat → Nat} {Y : mmY} {M M' : mmM} {b : Nat} (hs : mm_s Y M' b = mm_s Y M b) (hI : M'.2.2.2.1 b = M.2.2.2.1 b) (hJ : M'.2.2.2.2.1 b = M.2.2.2.2.1 b) (hP : ∀ k, (mm_p Y M' b k).map ρ' = (mm_p Y M b k).map ρ) : mm_cell cA ρ' Y M' b = mm_cell cA ρ Y M b := by
  have hfv : ∀ t k, mm_fv ρ' Y M' b t k = mm_fv ρ Y M b t k := by
    intro t k
    unfold mm_fv
    rw [hI, hJ, hP]
  have hct : ∀ ty, mm_ct ρ' Y M' b ty = mm_ct ρ Y M b ty := by
    intro ty
    unfold mm_ct
    rw [hI, hJ]
    simp only [hP]
  unfold mm_cell
  rw [hs]
  simp only [mm_fs, hfv, hct]
theorem mm_cell_wI {cA : Nat → ClassId} {ρ : Nat → Nat} {Y : mmY} {M : mmM} {a b k : Nat} {v : Int32} (h : b ≠ a) : mm_cell cA ρ Y (mm_wI M a k v) b = mm_cell cA ρ Y M b := mm_cell_congr rfl (mm_up_ne _ _ _ h) rfl (fun _ => rfl)
theorem mm_cell_wJ {cA : Nat → ClassId} {ρ : Nat → Nat} {Y : mmY} {M : mmM} {a b k : Nat} {v : Int64} (h : b ≠ a) : mm_cell cA ρ Y (mm_wJ M a k v) b = mm_cell cA ρ Y M b := mm_cell_congr rfl rfl (mm_up_ne _ _ _ h) (fun _ => rfl)
theorem mm_cell_wP {cA : Nat → ClassId} {ρ : Nat → Nat} {Y : mmY} {M : mmM} {a b k : Nat} {v : Option Nat} (h : b ≠ a) : mm_cell cA ρ Y (mm_wP M a k v) b = mm_cell cA ρ Y M b := mm_cell_congr rfl rfl rfl (fun _ => by rw [mm_p_wP h])
theorem mm_cell_wR {cA : Nat → ClassId} {ρ : Nat → Nat} {Y : mmY} {M : mmM} {a b : Nat} {g : Nat → Int32} (h : b ≠ a) : mm_cell cA ρ Y (mm_wR M a g) b = mm_cell cA ρ Y M b := mm_cell_congr rfl (mm_row_ne _ _ h) rfl (fun _ => rfl)
theorem mm_fs_at {ρ : Nat → Nat} {Y : mmY} {M : mmM} {a ci k : Nat} (hk : k < mm_size.getD ci 0) : (mm_fs ρ Y M a ci)[k]? = some (mm_fv ρ Y M a (mm_tyOf ci k) k) := by
  unfold mm_fs
  rw [List.getElem?_map, List.getElem?_range hk]
  rfl
theorem mm_fs_len {ρ : Nat → Nat} {Y : mmY} {M : mmM} {a ci : Nat} : (mm_fs ρ Y M a ci).length = mm_size.getD ci 0 := by simp [mm_fs]
theorem mm_fs_set {ρ : Nat → Nat} {Y : mmY} {M M' : mmM} {a ci k : Nat} {v : Value} (hv : mm_fv ρ Y M' a (mm_tyOf ci k) k = v) (ho : ∀ j, j ≠ k → ∀ t, mm_fv ρ Y M' a t j = mm_fv ρ Y M a t j) : mm_fs ρ Y M' a ci = (mm_fs ρ Y M a ci).set k v := by
  unfold mm_fs
  apply List.ext_getElem?
  intro j
  rw [List.getElem?_set, List.getElem?_map, List.length_map, List.length_range]
  by_cases hj : j < mm_size.getD ci 0
  · rw [List.getElem?_map, List.getElem?_range hj]
    by_cases e : k = j
    · subst e
      simp only [if_true, hj, Option.map_some, hv]
    · rw [if_neg e]
      simp only [Option.map_some]
      rw [ho j (fun q => e q.symm)]
  · rw [List.getElem?_map, List.getElem?_eq_none (by rw [List.length_range]; omega)]
    by_cases e : k = j
    · rw [if_pos e, if_neg (by omega)]; rfl
    · rw [if_neg e]; rfl
theorem mm_cell_obj {cA : Nat → ClassId} {ρ : Nat → Nat} {Y : mmY} {M : mmM} {a ci : Nat} (h : mm_s Y M a = .inl ci) : mm_cell cA ρ Y M a = .inr (ci, mm_fs ρ Y M a ci) := by
  unfold mm_cell
  rw [h]
theorem mm_cell_arr {cA : Nat → ClassId} {ρ : Nat → Nat} {Y : mmY} {M : mmM} {a ty n : Nat} (h : mm_s Y M a = .inr (ty, n)) : mm_cell cA ρ Y M a = .inl (cA ty, n, mm_ct ρ Y M a ty) := by
  unfold mm_cell
  rw [h]
theorem mm_obj_eq {s : mmSh} {ci : Nat} (h : mm_obj s ci = true) : s = .inl ci := by
  cases s with
  | inl c => simp only [mm_obj] at h; rw [Nat.eq_of_beq_eq_true h]
  | inr q => cases h
theorem mm_arr_eq {s : mmSh} {ty n : Nat} (h : mm_arr s ty = some n) : s = .inr (ty, n) := by
  cases s with
  | inl c => cases h
  | inr q =>
    obtain ⟨t, k⟩ := q
    simp only [mm_arr] at h
    cases hb : Nat.beq t ty with
    | false => rw [hb] at h; cases h
    | true =>
      rw [hb] at h
      cases h
      rw [Nat.eq_of_beq_eq_true hb]
theorem mm_inb_in {i : Int32} {n : Nat} (h : mm_inb i n = true) : vp_in i n := by
  unfold mm_inb at h
  by_cases h0 : i < 0
  · simp [h0] at h
  · simp [h0] at h
    rintro (q | q)
    · exact h0 q
    · have := (Nat.blt_eq).mp (by simpa using h : Nat.blt i.toNatClampNeg n = true)
      omega
theorem mm_s_lt {Y : mmY} {M : mmM} {o : Nat} (hY : mm_wfY Y) {ci : Nat} (h : mm_s Y M o = .inl ci) {q : vw_C} (hc : mm_cl[ci]? = some q) : 16 ≤ o := by
  by_cases h16 : 16 ≤ o
  · exact h16
  · exfalso
    have hlt : o < 16 := by omega
    unfold mm_s at h
    have hb : Nat.blt o Y.1 = true := Nat.blt_eq.mpr (Nat.lt_of_lt_of_le hlt hY.1)
    rw [hb] at h
    have := hY.2 o ci hlt h
    rw [this] at hc
    cases hc
theorem mm_s_tab {Y : mmY} {M : mmM} {o : Nat} (hY : mm_wfY Y) (h : ¬ 16 ≤ o) : mm_s Y M o = Y.2.1 o := by
  unfold mm_s
  rw [show Nat.blt o Y.1 = true from Nat.blt_eq.mpr (Nat.lt_of_lt_of_le (by omega) hY.1)]
  rfl
theorem mm_i_tab {Y : mmY} {M : mmM} {o k : Nat} (h : ¬ 16 ≤ o) : mm_i Y M o k = Y.2.2.2 o k := by
  unfold mm_i
  rw [show Nat.blt o 16 = true from Nat.blt_eq.mpr (by omega)]
  rfl
theorem mm_i_heap {Y : mmY} {M : mmM} {o k : Nat} (h : 16 ≤ o) : mm_i Y M o k = M.2.2.2.1 o k := by
  unfold mm_i
  rw [show Nat.blt o 16 = false from Bool.eq_false_iff.mpr fun q => by have := Nat.blt_eq.mp q; omega]
  rfl
theorem mm_size_of {ci : Nat} {q : vw_C} (hc : mm_cl[ci]? = some q) : mm_size.getD ci 0 = q.2.2 := by
  rw [List.getD_eq_getElem?_getD, (mm_cl_ok ci q hc).1]
  rfl
