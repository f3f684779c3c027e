section GM5
variable {p : Program} {l : Launch} {e : Env} {R : Room} {s : State} {m : MethodId} {args : Array Value} {below : List Frame} {meth : Method} {c : Code} {Q : State → Prop} {D : va_G} {cA : Nat → ClassId} {Y : mmY} {A : Nat → Prop} {nL n0 z0 oc : Nat} {ρ0 : Nat → Nat} {Mf : mmM} {cc : ByteArray} {pc : Nat} {L : mmL} {K r : List Value} {M : mmM}
variable {o n : Nat} {i : Int32}
theorem mm_mna_s {M : mmM} {b : Nat} : (mm_mna M).1 b = if b = M.2.1 + 4 then .inr (0, 0) else if b = M.2.1 + 3 then .inr (0, 0) else if b = M.2.1 + 2 then .inr (0, 0) else if b = M.2.1 + 1 then .inr (0, 0) else if b = M.2.1 then .inr (5, 4) else M.1 b := rfl
theorem mm_mna_lo {M : mmM} {b : Nat} (h : b < M.2.1) : (mm_mna M).1 b = M.1 b ∧ (mm_mna M).2.2.2.1 b = M.2.2.2.1 b ∧ (mm_mna M).2.2.2.2.1 b = M.2.2.2.2.1 b ∧ ∀ k, (mm_mna M).2.2.2.2.2 b k = M.2.2.2.2.2 b k := by
  refine ⟨?_, ?_, ?_, fun k => ?_⟩
  · rw [mm_mna_s, if_neg (by omega), if_neg (by omega), if_neg (by omega), if_neg (by omega), if_neg (by omega)]
  · show mm_row (mm_row (mm_row (mm_row (mm_row M.2.2.2.1 M.2.1 _) (M.2.1 + 1) _) (M.2.1 + 2) _) (M.2.1 + 3) _) (M.2.1 + 4) _ b = _
    rw [mm_row_ne _ _ (by omega), mm_row_ne _ _ (by omega), mm_row_ne _ _ (by omega), mm_row_ne _ _ (by omega), mm_row_ne _ _ (by omega)]
  · show mm_row (mm_row (mm_row (mm_row (mm_row M.2.2.2.2.1 M.2.1 _) (M.2.1 + 1) _) (M.2.1 + 2) _) (M.2.1 + 3) _) (M.2.1 + 4) _ b = _
    rw [mm_row_ne _ _ (by omega), mm_row_ne _ _ (by omega), mm_row_ne _ _ (by omega), mm_row_ne _ _ (by omega), mm_row_ne _ _ (by omega)]
  · have hne : b ≠ M.2.1 := by omega
    show mm_up (mm_up (mm_up (mm_up (mm_row (mm_row (mm_row (mm_row (mm_row M.2.2.2.2.2 M.2.1 _) (M.2.1 + 1) _) (M.2.1 + 2) _) (M.2.1 + 3) _) (M.2.1 + 4) _) M.2.1 0 _) M.2.1 1 _) M.2.1 2 _) M.2.1 3 _ b k = _
    unfold mm_up
    rw [if_neg hne, if_neg hne, if_neg hne, if_neg hne, mm_row_ne _ _ (by omega), mm_row_ne _ _ (by omega), mm_row_ne _ _ (by omega), mm_row_ne _ _ (by omega), mm_row_ne _ _ (by omega)]
theorem mm_mna_p {M : mmM} (k : Nat) : (mm_mna M).2.2.2.2.2 M.2.1 k = if k < 4 then some (M.2.1 + 1 + k) else none := by
  show mm_up (mm_up (mm_up (mm_up (mm_row (mm_row (mm_row (mm_row (mm_row M.2.2.2.2.2 M.2.1 (fun _ => none)) (M.2.1 + 1) _) (M.2.1 + 2) _) (M.2.1 + 3) _) (M.2.1 + 4) _) M.2.1 0 (some (M.2.1 + 1))) M.2.1 1 (some (M.2.1 + 2))) M.2.1 2 (some (M.2.1 + 3))) M.2.1 3 (some (M.2.1 + 4)) M.2.1 k = _
  unfold mm_up
  rw [if_pos rfl, if_pos rfl, if_pos rfl, if_pos rfl, mm_row_ne _ _ (by omega), mm_row_ne _ _ (by omega), mm_row_ne _ _ (by omega), mm_row_ne _ _ (by omega), mm_row_same]
  by_cases h3 : k = 3
  · subst h3; rfl
  rw [if_neg h3]
  by_cases h2 : k = 2
  · subst h2; rfl
  rw [if_neg h2]
  by_cases h1 : k = 1
  · subst h1; rfl
  rw [if_neg h1]
  by_cases h0 : k = 0
  · subst h0; rfl
  rw [if_neg h0, if_neg (by omega)]
theorem mm_mna_in {M : mmM} {i : Nat} (h : i < 4) : (mm_mna M).2.2.2.1 (M.2.1 + 1 + i) = (fun _ => 0) ∧ ∀ k, (mm_mna M).2.2.2.2.2 (M.2.1 + 1 + i) k = none := by
  have e1 : (mm_mna M).2.2.2.1 (M.2.1 + 1 + i) = mm_row (mm_row (mm_row (mm_row (mm_row M.2.2.2.1 M.2.1 (fun _ => 0)) (M.2.1 + 1) (fun _ => 0)) (M.2.1 + 2) (fun _ => 0)) (M.2.1 + 3) (fun _ => 0)) (M.2.1 + 4) (fun _ => 0) (M.2.1 + 1 + i) := rfl
  have e2 : ∀ k, (mm_mna M).2.2.2.2.2 (M.2.1 + 1 + i) k = mm_row (mm_row (mm_row (mm_row (mm_row M.2.2.2.2.2 M.2.1 (fun _ => none)) (M.2.1 + 1) (fun _ => none)) (M.2.1 + 2) (fun _ => none)) (M.2.1 + 3) (fun _ => none)) (M.2.1 + 4) (fun _ => none) (M.2.1 + 1 + i) k := fun k => by
    show mm_up (mm_up (mm_up (mm_up _ M.2.1 0 _) M.2.1 1 _) M.2.1 2 _) M.2.1 3 _ (M.2.1 + 1 + i) k = _
    unfold mm_up
    rw [if_neg (by omega), if_neg (by omega), if_neg (by omega), if_neg (by omega)]
  refine ⟨?_, fun k => ?_⟩
  · rw [e1]
    unfold mm_row
    (repeat' split) <;> first | rfl | (exfalso; omega)
  · rw [e2]
    unfold mm_row
    (repeat' split) <;> first | rfl | (exfalso; omega)
theorem mm_sp_hi {Y : mmY} {M : mmM} {b : Nat} (h : Y.1 ≤ b) : mm_s Y M b = M.1 b ∧ ∀ k, mm_p Y M b k = M.2.2.2.2.2 b k := by
  have e : Nat.blt b Y.1 = false := Bool.eq_false_iff.mpr fun z => by have := Nat.blt_eq.mp z; omega
  refine ⟨?_, fun k => ?_⟩
  · unfold mm_s; rw [e]; rfl
  · unfold mm_p mm_fx; rw [e]; rfl
theorem mm_mna_lp {Y : mmY} {M : mmM} {b : Nat} (h : b < M.2.1) (k : Nat) : mm_p Y (mm_mna M) b k = mm_p Y M b k := by
  unfold mm_p
  rw [(mm_mna_lo h).2.2.2]
theorem mm_mna_wf {Y : mmY} {M : mmM} (h : mm_wf Y M) : mm_wf Y (mm_mna M) := by
  refine ⟨Nat.le_trans h.1 (Nat.le_add_right _ 5), fun a k b h1 h2 h3 => ?_⟩
  have h2' : a < M.2.1 + 5 := h2
  show b < M.2.1 + 5
  have h0 := h.1
  by_cases e : a < M.2.1
  · rw [mm_mna_lp e] at h3
    have := h.2 a k b h1 e h3
    omega
  · rw [(mm_sp_hi (by omega)).2] at h3
    by_cases e2 : a = M.2.1
    · subst e2
      rw [mm_mna_p] at h3
      split at h3
      · cases h3; omega
      · cases h3
    · obtain ⟨i, rfl⟩ : ∃ i, a = M.2.1 + 1 + i := ⟨a - M.2.1 - 1, by omega⟩
      rw [(mm_mna_in (by omega)).2] at h3
      cases h3
theorem ga_mna (hx : p.tables.exec = Jvm.exec) (hb : c.code = cc) (hY : mm_wfY Y) (hK : va_K D mm_cl (mm_tysA cA) s) (h16n : 16 ≤ n0) (hA : ∀ q, s.heap.size ≤ q → A q) (hRc : Mf.2.1 + oc - n0 ≤ R.cells) (hRs : Mf.2.2.1 - z0 ≤ R.slots) {own : String} {index : Nat} (hown : s.vm.findClass own = some m.cls) (hcl : (Cond.classLink own index "[[I").before args s = true) (h5 : mm_c5 cA s) (harr : (Cond.arrayClass .int).before args s = true) (hd : decode cc pc = .ok (.multianewarray index 2, 4)) (kk : mm_Gd p l e R s m args below meth c Q D cA Y A nL n0 z0 oc ρ0 Mf (pc + 4) L (.ref M.2.1 :: r) (mm_mna M)) : mm_Gd p l e R s m args below meth c Q D cA Y A nL n0 z0 oc ρ0 Mf pc L (.int 0 :: .int 4 :: r) M := by
  intro hw0 hn0 hz0 hk0 hl0
  obtain ⟨h1, h2⟩ := kk (mm_mna_wf hw0) (by show n0 ≤ _ + 5; omega) (by show z0 ≤ _ + 4; omega) (mm_ks_cons (by show _ < _ + 5; omega) (mm_ks_le (mm_ks_tail (mm_ks_tail hk0)) (by show _ ≤ _ + 5; omega))) (fun i v hv => mm_okv_le (hl0 i v hv) (by show _ ≤ _ + 5; omega))
  have t2 : M.2.1 + 5 ≤ Mf.2.1 := h1.2.1
  have t3 : M.2.2.1 + 4 ≤ Mf.2.2.1 := h1.2.2
  refine ⟨⟨h1.1, by omega, by omega⟩, fun ρ H locs ls hr hP hD hS hl => ?_⟩
  have hcy : s.vm.findClass (FieldType.array .int).toString = some (cA 0) := (hK.2 0 (cA 0, .int) rfl).2
  have hP0 : va_P D mm_cl (mm_enc cA ρ Y M ++ va_pl [] (fun _ => .inl (cA 0, 0, .inl (fun _ => 0)))) H := by
    show va_P D mm_cl (mm_enc cA ρ Y M ++ []) H
    rw [List.append_nil]; exact hP
  have hD0 : va_D A (mm_enc cA ρ Y M ++ va_pl [] (fun _ => .inl (cA 0, 0, .inl (fun _ => 0)))) := by
    show va_D A (mm_enc cA ρ Y M ++ [])
    rw [List.append_nil]; exact hD
  refine va_mna (z := (0, .inl (fun _ => 0))) (ty := .int) (cy := cA 0) (N' := 4) (K' := 0) hx hb hown hcl h5.1 harr hcy hK hP0 hD0 hS hA (n := 4) (k := 0) (by decide) (by decide) (by decide) (by decide) (by decide) (by decide) (by decide) rfl rfl (by omega) (by omega) (fun c9 => rfl) hd (fun q rr cN H1 hinj hnl hK1 hP1 hD1 hS1 => ?_)
  have hcn : cN = cA 5 := by
    have a1 := (hK1.2 6 (cN, .array .int) rfl).2
    have a2 := (hK.2 5 (cA 5, .array .int) rfl).2
    exact Option.some.inj (Eq.trans (Eq.symm a1) a2)
  subst hcn
  refine W.cs (cells' := M.2.1 + 5 + oc - n0) (slots' := M.2.2.1 + 4 - z0) (by omega) (by omega) ?_
  have h0 := hw0.1
  have h16 : 16 ≤ M.2.1 := by omega
  obtain ⟨ρ', hρ⟩ : ∃ ρ' : Nat → Nat, ρ' = fun b => if b < M.2.1 then ρ b else if b = M.2.1 then q else rr (b - M.2.1 - 1) := ⟨_, rfl⟩
  have r1 : ∀ b, b < M.2.1 → ρ' b = ρ b := fun b hb => by rw [hρ]; exact if_pos hb
  have r2 : ρ' M.2.1 = q := by rw [hρ]; show (if _ then _ else _) = q; rw [if_neg (by omega), if_pos rfl]
  have r3 : ∀ i, ρ' (M.2.1 + 1 + i) = rr i := fun i => by
    rw [hρ]
    show (if _ then _ else _) = _
    rw [if_neg (by omega), if_neg (by omega)]
    congr 1
    omega
  have c1 : ∀ b, 16 ≤ b → b < M.2.1 → mm_cell cA ρ' Y (mm_mna M) b = mm_cell cA ρ Y M b := fun b b1 b2 => by
    obtain ⟨e1, e2, e3, e4⟩ := mm_mna_lo b2
    refine mm_cell_congr (by unfold mm_s; rw [e1]) e2 e3 (fun k => ?_)
    rw [mm_mna_lp b2]
    cases h : mm_p Y M b k with
    | none => rfl
    | some x => simp only [Option.map_some]; rw [r1 x (hw0.2 b k x b1 b2 h)]
  have c2 : mm_cell cA ρ' Y (mm_mna M) M.2.1 = .inl (cA 5, 4, .inr (.inr (.inr (.inr (fun i => if i < 4 then some (rr i) else none))))) := by
    rw [mm_cell_arr (a := M.2.1) (ty := 5) (n := 4) (by rw [(mm_sp_hi h0).1, mm_mna_s, if_neg (by omega), if_neg (by omega), if_neg (by omega), if_neg (by omega), if_pos rfl]), mm_ct5]
    congr 7
    funext k
    rw [(mm_sp_hi h0).2, mm_mna_p]
    by_cases hk : k < 4
    · rw [if_pos hk, if_pos hk, Option.map_some, r3]
    · rw [if_neg hk, if_neg hk]
      rfl
  have c3 : ∀ i, i < 4 → mm_cell cA ρ' Y (mm_mna M) (M.2.1 + 1 + i) = .inl (cA 0, 0, .inl (fun _ => 0)) := fun i hi => by
    rw [mm_cell_arr (a := M.2.1 + 1 + i) (ty := 0) (n := 0) (by
      rw [(mm_sp_hi (by omega)).1, mm_mna_s]
      (repeat' split) <;> first | rfl | (exfalso; omega)), mm_ct0, (mm_mna_in hi).1]
  have hx1 : mm_enc cA ρ' Y (mm_mna M) = mm_enc cA ρ Y M ++ [(q, .inl (cA 5, 4, .inr (.inr (.inr (.inr (fun i => if i < 4 then some (rr i) else none)))))), (rr 0, .inl (cA 0, 0, .inl (fun _ => 0))), (rr 1, .inl (cA 0, 0, .inl (fun _ => 0))), (rr 2, .inl (cA 0, 0, .inl (fun _ => 0))), (rr 3, .inl (cA 0, 0, .inl (fun _ => 0)))] := by
    have hold : (List.range (M.2.1 - 16)).map (fun j => (ρ' (16 + j), mm_cell cA ρ' Y (mm_mna M) (16 + j))) = mm_enc cA ρ Y M := by
      unfold mm_enc
      apply List.map_congr_left
      intro j hj
      have hj2 := List.mem_range.mp hj
      rw [r1 _ (by omega), c1 _ (by omega) (by omega)]
    rw [← hold]
    show (List.range (M.2.1 + 5 - 16)).map (fun j => (ρ' (16 + j), mm_cell cA ρ' Y (mm_mna M) (16 + j))) = _
    rw [show M.2.1 + 5 - 16 = (M.2.1 - 16) + 1 + 1 + 1 + 1 + 1 by omega, List.range_succ, List.range_succ, List.range_succ, List.range_succ, List.range_succ]
    simp only [List.map_append, List.map_cons, List.map_nil, List.append_assoc, List.cons_append, List.nil_append]
    rw [show 16 + (M.2.1 - 16) = M.2.1 by omega, show 16 + (M.2.1 - 16 + 1) = M.2.1 + 1 + 0 by omega, show 16 + (M.2.1 - 16 + 1 + 1) = M.2.1 + 1 + 1 by omega, show 16 + (M.2.1 - 16 + 1 + 1 + 1) = M.2.1 + 1 + 2 by omega, show 16 + (M.2.1 - 16 + 1 + 1 + 1 + 1) = M.2.1 + 1 + 3 by omega, r2, c2, r3, r3, r3, r3, c3 0 (by omega), c3 1 (by omega), c3 2 (by omega), c3 3 (by omega)]
  have hx2 : (mm_enc cA ρ Y M ++ [(q, .inl (cA 5, 4, .inr (.inr (.inr (.inr (fun i => if i < 4 then some (rr i) else none))))))]) ++ va_pl ([] ++ (List.range 4).map rr) (vr_up (fun _ => .inl (cA 0, 0, .inl (fun _ => 0))) ((List.range 4).map rr) (.inl (cA 0, 0, .inl (fun _ => 0)))) = mm_enc cA ρ' Y (mm_mna M) := by
    rw [hx1, List.append_assoc]
    congr 1
    unfold va_pl vr_up
    simp [List.range_succ]
  rw [hx2] at hP1 hD1
  have h3 := h2 ρ' H1 locs ls (fun b hb => by rw [r1 b (by omega)]; exact hr b hb) hP1 hD1 hS1 (mm_lc_le hl (by show _ ≤ _ + 5; omega) r1)
  rw [List.map_cons, mm_ks_tr (mm_ks_tail (mm_ks_tail hk0)) r1] at h3
  have e9 : mm_tr ρ' (.ref M.2.1) = .ref q := by show Value.ref _ = _; rw [r2]
  rw [e9] at h3
  exact h3
end GM5
