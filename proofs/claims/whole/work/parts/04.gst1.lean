/-! The small machine's world in the real heap. -/
abbrev mm_cl : List vw_C := [(RX0, TX0, 11), (RX1, TX1, 1), (RX2, TX2, 2), (RX3, TX3, 3), (RX4, TX4, 11), (RX5, TX5, 1), (RX6, TX6, 3), (RX7, TX7, 5), (RX8, TX8, 5), (RX9, TX9, 3), (RX10, TX10, 2), (RX11, TX11, 19), (RX12, TX12, 46)]
abbrev mm_tys0 : List (Nat → FieldType) := [tyX0, tyX1, tyX2, tyX3, tyX4, tyX5, tyX6, tyX7, tyX8, tyX9, tyX10, tyX11, tyX12]
def mm_tyOf (ci : Nat) : Nat → FieldType := mm_tys0.getD ci (fun _ => .int)
noncomputable def mm_gw : List Cond := lw_tbl.filter goodWord
def mm_tk (t : FieldType) : Nat := match t with
  | .int => 0
  | .long => 1
  | .object _ => 2
  | .array _ => 2
  | .boolean => 3
  | _ => 9
theorem mm_tyk : (List.range 13).all (fun ci => (List.range (mm_size.getD ci 0)).all fun k => decide (mm_tk (mm_tyOf ci k) < 4)) = true := by decide +kernel
theorem mm_cl_ok (ci : Nat) (q : vw_C) (h : mm_cl[ci]? = some q) : mm_size[ci]? = some q.2.2 ∧ (∀ k, k < q.2.2 → parseFieldDescriptor (q.2.1 k).2.2.1 = some (mm_tyOf ci k)) ∧ (∀ a, a < q.2.2 → ∀ b, b < q.2.2 → a ≠ b → (q.2.1 a).2.1 ≠ (q.2.1 b).2.1) := by
  have hlt : ci < 13 := (List.getElem?_eq_some_iff.mp h).1
  rcases ci with _ | _ | _ | _ | _ | _ | _ | _ | _ | _ | _ | _ | _ | ci
  · cases h; exact ⟨rfl, tyX0_ok, nmX0⟩
  · cases h; exact ⟨rfl, tyX1_ok, nmX1⟩
  · cases h; exact ⟨rfl, tyX2_ok, nmX2⟩
  · cases h; exact ⟨rfl, tyX3_ok, nmX3⟩
  · cases h; exact ⟨rfl, tyX4_ok, nmX4⟩
  · cases h; exact ⟨rfl, tyX5_ok, nmX5⟩
  · cases h; exact ⟨rfl, tyX6_ok, nmX6⟩
  · cases h; exact ⟨rfl, tyX7_ok, nmX7⟩
  · cases h; exact ⟨rfl, tyX8_ok, nmX8⟩
  · cases h; exact ⟨rfl, tyX9_ok, nmX9⟩
  · cases h; exact ⟨rfl, tyX10_ok, nmX10⟩
  · cases h; exact ⟨rfl, tyX11_ok, nmX11⟩
  · cases h; exact ⟨rfl, tyX12_ok, nmX12⟩
  · omega
def mm_fv (ρ : Nat → Nat) (Y : mmY) (M : mmM) (a : Nat) (t : FieldType) (k : Nat) : Value := match t with
  | .int => .int (M.2.2.2.1 a k)
  | .boolean => .int (M.2.2.2.1 a k)
  | .long => .long (M.2.2.2.2.1 a k)
  | _ => va_rf ((mm_p Y M a k).map ρ)
def mm_fs (ρ : Nat → Nat) (Y : mmY) (M : mmM) (a ci : Nat) : List Value := (List.range (mm_size.getD ci 0)).map fun k => mm_fv ρ Y M a (mm_tyOf ci k) k
def mm_ct (ρ : Nat → Nat) (Y : mmY) (M : mmM) (a ty : Nat) : (Nat → Int32) ⊕ (Nat → Int64) ⊕ (Nat → UInt32) ⊕ (Nat → UInt64) ⊕ (Nat → Option Nat) := match ty with
  | 0 => .inl (M.2.2.2.1 a)
  | 1 => .inl (M.2.2.2.1 a)
  | 2 => .inl (M.2.2.2.1 a)
  | 3 => .inr (.inl (M.2.2.2.2.1 a))
  | _ => .inr (.inr (.inr (.inr fun k => (mm_p Y M a k).map ρ)))
def mm_cell (cA : Nat → ClassId) (ρ : Nat → Nat) (Y : mmY) (M : mmM) (a : Nat) : va_E := match mm_s Y M a with
  | .inl ci => .inr (ci, mm_fs ρ Y M a ci)
  | .inr q => .inl (cA q.1, q.2, mm_ct ρ Y M a q.1)
/-- the cells from 16 on, at their addresses -/
def mm_enc (cA : Nat → ClassId) (ρ : Nat → Nat) (Y : mmY) (M : mmM) : va_W := (List.range (M.2.1 - 16)).map fun j => (ρ (16 + j), mm_cell cA ρ Y M (16 + j))
theorem mm_enc_at {cA : Nat → ClassId} {ρ : Nat → Nat} {Y : mmY} {M : mmM} {a : Nat} (h1 : 16 ≤ a) (h2 : a < M.2.1) : (mm_enc cA ρ Y M)[a - 16]? = some (ρ a, mm_cell cA ρ Y M a) := by
  unfold mm_enc
  rw [List.getElem?_map, List.getElem?_range (by omega)]
  simp only [Option.map_some]
  rw [show 16 + (a - 16) = a by omega]
theorem mm_enc_ext {cA : Nat → ClassId} {ρ ρ' : Nat → Nat} {Y : mmY} {M M' : mmM} (hn : M'.2.1 = M.2.1) (hr : ∀ b, b < M.2.1 → ρ' b = ρ b) (hc : ∀ b, 16 ≤ b → b < M.2.1 → mm_cell cA ρ' Y M' b = mm_cell cA ρ Y M b) : mm_enc cA ρ' Y M' = mm_enc cA ρ Y M := by
  unfold mm_enc
  rw [hn]
  apply List.map_congr_left
  intro j hj
  have := List.mem_range.mp hj
  rw [hr _ (by omega), hc _ (by omega) (by omega)]
theorem mm_enc_set {cA : Nat → ClassId} {ρ : Nat → Nat} {Y : mmY} {M M' : mmM} {a : Nat} {x : va_E} (h1 : 16 ≤ a) (h2 : a < M.2.1) (hn : M'.2.1 = M.2.1) (hx : mm_cell cA ρ Y M' a = x) (hc : ∀ b, 16 ≤ b → b < M.2.1 → b ≠ a → mm_cell cA ρ Y M' b = mm_cell cA ρ Y M b) : (mm_enc cA ρ Y M).set (a - 16) (ρ a, x) = mm_enc cA ρ Y M' := by
  unfold mm_enc
  rw [hn]
  apply List.ext_getElem?
  intro j
  rw [List.getElem?_set, List.getElem?_map, List.length_map, List.length_range]
  by_cases hj : j < M.2.1 - 16
  · rw [List.getElem?_map, List.getElem?_range hj]
    by_cases e : a - 16 = j
    · subst e
      simp only [if_true, hj]
      simp only [Option.map_some]
      rw [show 16 + (a - 16) = a by omega, hx]
    · rw [if_neg e]
      simp only [Option.map_some]
      rw [hc _ (by omega) (by omega) (by omega)]
  · rw [List.getElem?_map, List.getElem?_eq_none (by simp; omega)]
    by_cases e : a - 16 = j
    · omega
    · rw [if_neg e]
      rfl
theorem mm_enc_push {cA : Nat → ClassId} {ρ ρ' : Nat → Nat} {Y : mmY} {M M' : mmM} (h1 : 16 ≤ M.2.1) (hn : M'.2.1 = M.2.1 + 1) (hr : ∀ b, b < M.2.1 → ρ' b = ρ b) (hc : ∀ b, 16 ≤ b → b < M.2.1 → mm_cell cA ρ' Y M' b = mm_cell cA ρ Y M b) : mm_enc cA ρ' Y M' = mm_enc cA ρ Y M ++ [(ρ' M.2.1, mm_cell cA ρ' Y M' M.2.1)] := by
  unfold mm_enc
  rw [hn, show M.2.1 + 1 - 16 = (M.2.1 - 16) + 1 by omega, List.range_succ, List.map_append]
  congr 1
  · apply List.map_congr_left
    intro j hj
    have := List.mem_range.mp hj
    rw [hr _ (by omega), hc _ (by omega) (by omega)]
  · simp only [List.map_cons, List.map_nil]
    rw [show 16 + (M.2.1 - 16) = M.2.1 by omega]
def mm_tr (ρ : Nat → Nat) (v : Value) : Value := match v with
  | .ref a => .ref (ρ a)
  | v => v
def mm_okv (n : Nat) (v : Value) : Prop := match v with
  | .ref a => a < n
  | _ => True
theorem mm_tr_rv {ρ : Nat → Nat} (r : Option Nat) : mm_tr ρ (mm_rv r) = va_rf (r.map ρ) := by cases r <;> rfl
theorem mm_tr_eq {ρ ρ' : Nat → Nat} {n : Nat} {v : Value} (h : mm_okv n v) (hr : ∀ b, b < n → ρ' b = ρ b) : mm_tr ρ' v = mm_tr ρ v := by
  cases v with
  | ref a => simp only [mm_tr]; rw [hr a h]
  | _ => rfl
theorem mm_okv_le {n n' : Nat} {v : Value} (h : mm_okv n v) (hn : n ≤ n') : mm_okv n' v := by
  cases v with
  | ref a => exact Nat.lt_of_lt_of_le h hn
  | _ => trivial
theorem mm_okv_rv {n : Nat} {r : Option Nat} (h : ∀ b, r = some b → b < n) : mm_okv n (mm_rv r) := by
  cases r with
  | none => trivial
  | some a => exact h a rfl
/-- the locals -/
def mm_lc (ρ : Nat → Nat) (n : Nat) (L : mmL) (ls : Array Slot) (nL : Nat) : Prop := ls.size = nL ∧ lv_wf ls ∧ L.length ≤ nL ∧ ∀ (i : Nat) (v : Value), L[i]? = some (some v) → ls[i]? = some (.val (mm_tr ρ v)) ∧ mm_okv n v
def mm_ks (n : Nat) (K : List Value) : Prop := ∀ v ∈ K, mm_okv n v
theorem mm_lc_le {ρ ρ' : Nat → Nat} {n n' : Nat} {L : mmL} {ls : Array Slot} {nL : Nat} (h : mm_lc ρ n L ls nL) (hn : n ≤ n') (hr : ∀ b, b < n → ρ' b = ρ b) : mm_lc ρ' n' L ls nL :=
  ⟨h.1, h.2.1, h.2.2.1, fun i v hv => by
    obtain ⟨h1, h2⟩ := h.2.2.2 i v hv
    exact ⟨by rw [mm_tr_eq h2 hr]; exact h1, mm_okv_le h2 hn⟩⟩
theorem mm_ks_le {n n' : Nat} {K : List Value} (h : mm_ks n K) (hn : n ≤ n') : mm_ks n' K := fun v hv => mm_okv_le (h v hv) hn
theorem mm_ks_tr {ρ ρ' : Nat → Nat} {n : Nat} {K : List Value} (h : mm_ks n K) (hr : ∀ b, b < n → ρ' b = ρ b) : K.map (mm_tr ρ') = K.map (mm_tr ρ) := List.map_congr_left fun v hv => mm_tr_eq (h v hv) hr
/-- as a list of places, for the kit's rows -/
def mm_al (ρ : Nat → Nat) (L : mmL) : List (Nat × Value) := (List.range L.length).filterMap fun i => match L[i]? with
  | some (some v) => some (i, mm_tr ρ v)
  | _ => none
theorem mm_al_mem {ρ : Nat → Nat} {L : mmL} {i : Nat} {w : Value} : (i, w) ∈ mm_al ρ L ↔ ∃ v, L[i]? = some (some v) ∧ w = mm_tr ρ v := by
  unfold mm_al
  rw [List.mem_filterMap]
  constructor
  · rintro ⟨j, hj, h⟩
    split at h
    · next v hv =>
      cases h
      exact ⟨v, hv, rfl⟩
    · cases h
  · rintro ⟨v, hv, rfl⟩
    refine ⟨i, List.mem_range.mpr (List.getElem?_eq_some_iff.mp hv).1, ?_⟩
    rw [hv]
theorem mm_lc_has {ρ : Nat → Nat} {n : Nat} {L : mmL} {ls : Array Slot} {nL : Nat} (h : mm_lc ρ n L ls nL) : lv_has ls nL (mm_al ρ L) := by
  refine ⟨h.1, h.2.1, ?_⟩
  rintro ⟨i, w⟩ hq
  obtain ⟨v, hv, rfl⟩ := mm_al_mem.mp hq
  exact (h.2.2.2 i v hv).1
theorem mm_clr_len (L : mmL) (i : Nat) : (mm_clr L i).length = L.length := by
  unfold mm_clr
  split
  · rfl
  · split <;> simp
theorem mm_clr_at {L : mmL} {i j : Nat} {v : Value} (h : (mm_clr L i)[j]? = some (some v)) : L[j]? = some (some v) ∧ ¬ (j + 1 = i ∧ v.category = 2) := by
  unfold mm_clr at h
  split at h
  · exact ⟨h, fun q => by omega⟩
  · next k =>
    split at h
    · next x hx =>
      rw [List.getElem?_set] at h
      by_cases e : k = j
      · rw [if_pos e] at h
        split at h <;> cases h
      · rw [if_neg e] at h
        exact ⟨h, fun q => e (by omega)⟩
    · next x hx =>
      rw [List.getElem?_set] at h
      by_cases e : k = j
      · rw [if_pos e] at h
        split at h <;> cases h
      · rw [if_neg e] at h
        exact ⟨h, fun q => e (by omega)⟩
    · next h1 h2 =>
      refine ⟨h, fun q => ?_⟩
      have e : k = j := by omega
      subst e
      cases v with
      | long x => exact h1 x h
      | double x => exact h2 x h
      | _ => simp [Value.category] at q
theorem mm_st1_ok {ρ : Nat → Nat} {n : Nat} {L : mmL} {ls ls' : Array Slot} {nL i : Nat} {v : Value} (h : mm_lc ρ n L ls nL) (hv : mm_okv n v) (hl : lv_has ls' nL ((i, mm_tr ρ v) :: (mm_al ρ L).filter (fun q => !(q.1 == i) && !(q.1 + 1 == i && q.2.category == 2)))) : mm_lc ρ n (mm_st1 L i v) ls' nL := by
  refine ⟨hl.1, hl.2.1, by unfold mm_st1; rw [List.length_set, mm_clr_len]; exact h.2.2.1, ?_⟩
  intro j w hw
  unfold mm_st1 at hw
  rw [List.getElem?_set] at hw
  by_cases e : i = j
  · subst e
    rw [if_pos rfl] at hw
    split at hw
    · cases hw
      exact ⟨hl.2.2 (i, mm_tr ρ v) List.mem_cons_self, hv⟩
    · cases hw
  · rw [if_neg e] at hw
    obtain ⟨h1, h2⟩ := mm_clr_at hw
    refine ⟨hl.2.2 (j, mm_tr ρ w) (List.mem_cons_of_mem _ (List.mem_filter.mpr ⟨mm_al_mem.mpr ⟨w, h1, rfl⟩, ?_⟩)), (h.2.2.2 j w h1).2⟩
    have hc : (mm_tr ρ w).category = w.category := by cases w <;> rfl
    simp only [hc, Bool.and_eq_true, Bool.not_eq_true', beq_eq_false_iff_ne, ne_eq, Bool.and_eq_false_iff]
    refine ⟨fun q => e q.symm, ?_⟩
    by_cases q : j + 1 = i
    · exact Or.inr fun z => h2 ⟨q, z⟩
    · exact Or.inl q
theorem mm_st2_ok {ρ : Nat → Nat} {n : Nat} {L : mmL} {ls ls' : Array Slot} {nL i : Nat} {v : Value} (h : mm_lc ρ n L ls nL) (hv : mm_okv n v) (hl : lv_has ls' nL ((i, mm_tr ρ v) :: (mm_al ρ L).filter (fun q => !(q.1 == i) && (!(q.1 == i + 1) && !(q.1 + 1 == i && q.2.category == 2))))) : mm_lc ρ n (mm_st2 L i v) ls' nL := by
  refine ⟨hl.1, hl.2.1, by unfold mm_st2; rw [List.length_set, List.length_set, mm_clr_len]; exact h.2.2.1, ?_⟩
  intro j w hw
  unfold mm_st2 at hw
  rw [List.getElem?_set] at hw
  by_cases e2 : i + 1 = j
  · subst e2
    rw [if_pos rfl] at hw
    split at hw <;> cases hw
  · rw [if_neg e2, List.getElem?_set] at hw
    by_cases e : i = j
    · subst e
      rw [if_pos rfl] at hw
      split at hw
      · cases hw
        exact ⟨hl.2.2 (i, mm_tr ρ v) List.mem_cons_self, hv⟩
      · cases hw
    · rw [if_neg e] at hw
      obtain ⟨h1, h2⟩ := mm_clr_at hw
      refine ⟨hl.2.2 (j, mm_tr ρ w) (List.mem_cons_of_mem _ (List.mem_filter.mpr ⟨mm_al_mem.mpr ⟨w, h1, rfl⟩, ?_⟩)), (h.2.2.2 j w h1).2⟩
      have hc : (mm_tr ρ w).category = w.category := by cases w <;> rfl
      simp only [hc, Bool.and_eq_true, Bool.not_eq_true', beq_eq_false_iff_ne, ne_eq, Bool.and_eq_false_iff]
      refine ⟨fun q => e q.symm, fun q => e2 q.symm, ?_⟩
      by_cases q : j + 1 = i
      · exact Or.inr fun z => h2 ⟨q, z⟩
      · exact Or.inl q
theorem mm_msk_at : ∀ (m : List Bool) (L : mmL) (i : Nat) (v : Value), (mm_msk m L)[i]? = some (some v) → L[i]? = some (some v)
  | [], _, _, _, h => by cases h
  | _ :: _, [], _, _, h => by cases h
  | b :: m, x :: L, 0, v, h => by
    change (cond b x none :: mm_msk m L)[0]? = _ at h
    cases b
    · cases h
    · exact h
  | b :: m, x :: L, i + 1, v, h => by
    change (cond b x none :: mm_msk m L)[i + 1]? = _ at h
    rw [List.getElem?_cons_succ] at h ⊢
    exact mm_msk_at m L i v h
theorem mm_msk_len : ∀ (m : List Bool) (L : mmL), (mm_msk m L).length ≤ L.length
  | [], L => Nat.zero_le _
  | _ :: _, [] => Nat.zero_le _
  | b :: m, x :: L => Nat.succ_le_succ (mm_msk_len m L)
theorem mm_msk_ok {ρ : Nat → Nat} {n : Nat} {L : mmL} {ls : Array Slot} {nL : Nat} (m : List Bool) (h : mm_lc ρ n L ls nL) : mm_lc ρ n (mm_msk m L) ls nL :=
  ⟨h.1, h.2.1, Nat.le_trans (mm_msk_len m L) h.2.2.1, fun i v hv => h.2.2.2 i v (mm_msk_at m L i v hv)⟩
