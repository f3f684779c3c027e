/-- of the array of int arrays: its class's component is the int arrays' class -/
def mm_c5 (cA : Nat → ClassId) (U : State) : Prop := va_AOA .int U ∧ ∃ (kA kI : Class), U.vm.classes[cA 5]? = some kA ∧ kA.kind = .array (cA 0) (.array .int) ∧ U.vm.classes[cA 0]? = some kI ∧ U.vm.assignable (cA 0) (cA 0) = true
theorem mm_ct0 {ρ : Nat → Nat} {Y : mmY} {M : mmM} {a : Nat} : mm_ct ρ Y M a 0 = .inl (M.2.2.2.1 a) := rfl
theorem mm_ct1 {ρ : Nat → Nat} {Y : mmY} {M : mmM} {a : Nat} : mm_ct ρ Y M a 1 = .inl (M.2.2.2.1 a) := rfl
theorem mm_ct3 {ρ : Nat → Nat} {Y : mmY} {M : mmM} {a : Nat} : mm_ct ρ Y M a 3 = .inr (.inl (M.2.2.2.2.1 a)) := rfl
theorem mm_ct4 {ρ : Nat → Nat} {Y : mmY} {M : mmM} {a : Nat} : mm_ct ρ Y M a 4 = .inr (.inr (.inr (.inr fun k => (mm_p Y M a k).map ρ))) := rfl
theorem mm_ct5 {ρ : Nat → Nat} {Y : mmY} {M : mmM} {a : Nat} : mm_ct ρ Y M a 5 = .inr (.inr (.inr (.inr fun k => (mm_p Y M a k).map ρ))) := rfl
section GA
variable {p : Program} {l : Launch} {e : Env} {R : Room} {s : State} {m : MethodId} {args : Array Value} {below : List Frame} {meth : Method} {c : Code} {Q : State → Prop} {D : va_G} {cA : Nat → ClassId} {Y : mmY} {A : Nat → Prop} {nL n0 z0 oc : Nat} {ρ0 : Nat → Nat} {Mf : mmM} {cc : ByteArray} {pc : Nat} {L : mmL} {K r : List Value} {M : mmM}
variable {o n : Nat} {i : Int32}

theorem ga_stat (hx : p.tables.exec = Jvm.exec) (hb : c.code = cc) {own : String} {index t : Nat} {q : String × String} (h16n : 16 ≤ n0) (hZ : mm_cnZ ρ0 A s s.heap) (hown : s.vm.findClass own = some m.cls) (hq : mm_stat[t]? = some q) (hlink : (Cond.fieldLink own index RX10 q.1 q.2).before args s = true) (hd : decode cc pc = .ok (.getstatic index, 3)) (kk : mm_Gd p l e R s m args below meth c Q D cA Y A nL n0 z0 oc ρ0 Mf (pc + 3) L (.ref t :: K) M) : mm_Gd p l e R s m args below meth c Q D cA Y A nL n0 z0 oc ρ0 Mf pc L K M := by
  intro hw0 hn0 hz0 hk0 hl0
  have ht : t < 9 := (List.getElem?_eq_some_iff.mp hq).1
  have ho : mm_okv M.2.1 (.ref t) := by show t < M.2.1; omega
  obtain ⟨h1, h2⟩ := kk hw0 hn0 hz0 (mm_ks_cons ho hk0) hl0
  refine ⟨h1, fun ρ H locs ls hr hP hD hS hl => ?_⟩
  have hz := hZ t q hq
  rw [← hr t (by omega)] at hz
  exact va_gets hx hb hz hS hown hlink (fun _ h9 => h9) hd (h2 ρ H locs ls hr hP hD hS hl)
theorem ga_len (hx : p.tables.exec = Jvm.exec) (hb : c.code = cc) (hY : mm_wfY Y) (hK : va_K D mm_cl (mm_tysA cA) s) (h16n : 16 ≤ n0) (hT : mm_cnT Y ρ0 A s s.heap) {ty : Nat} (hty : ty < 6) (ho : mm_s Y M o = .inr (ty, n)) (hne : ty ≠ 2 ∨ ¬ 16 ≤ o) (hd : decode cc pc = .ok (.arraylength, 1)) (kk : mm_Gd p l e R s m args below meth c Q D cA Y A nL n0 z0 oc ρ0 Mf (pc + 1) L (.int (Int32.ofNat n) :: r) M) : mm_Gd p l e R s m args below meth c Q D cA Y A nL n0 z0 oc ρ0 Mf pc L (.ref o :: r) M := by
  intro hw0 hn0 hz0 hk0 hl0
  obtain ⟨h1, h2⟩ := kk hw0 hn0 hz0 (mm_ks_cons trivial (mm_ks_tail hk0)) hl0
  refine ⟨h1, fun ρ H locs ls hr hP hD hS hl => ?_⟩
  by_cases h16 : 16 ≤ o
  · have he := mm_enc_at (cA := cA) (ρ := ρ) (Y := Y) h16 (mm_ks_head hk0)
    rw [mm_cell_arr ho] at he
    obtain ⟨ft, hft⟩ : ∃ ft, (mm_tysA cA)[ty]? = some (cA ty, ft) := by
      rcases (show ty = 0 ∨ ty = 1 ∨ ty = 2 ∨ ty = 3 ∨ ty = 4 ∨ ty = 5 by omega) with rfl | rfl | rfl | rfl | rfl | rfl
      · exact ⟨_, rfl⟩
      · exact ⟨_, rfl⟩
      · exact absurd rfl (hne.resolve_right (fun z => z h16))
      · exact ⟨_, rfl⟩
      · exact ⟨_, rfl⟩
      · exact ⟨_, rfl⟩
    exact va_alen hx hb hK hP (o - 16) ty he hft rfl hd (h2 ρ H locs ls hr hP hD hS hl)
  · have hz := hT o ty n (by omega) (by rw [← mm_s_tab (M := M) hY h16]; exact ho)
    rw [← hr o (by omega)] at hz
    exact va_tlen hx hb hz hS rfl hd (h2 ρ H locs ls hr hP hD hS hl)
theorem ga_iald (hx : p.tables.exec = Jvm.exec) (hb : c.code = cc) (hY : mm_wfY Y) (hK : va_K D mm_cl (mm_tysA cA) s) (h16n : 16 ≤ n0) (hT : mm_cnT Y ρ0 A s s.heap) (ho : mm_s Y M o = .inr (0, n)) (hin : vp_in i n) (hd : decode cc pc = .ok (.iaload, 1)) (kk : mm_Gd p l e R s m args below meth c Q D cA Y A nL n0 z0 oc ρ0 Mf (pc + 1) L (.int (mm_i Y M o i.toNatClampNeg) :: r) M) : mm_Gd p l e R s m args below meth c Q D cA Y A nL n0 z0 oc ρ0 Mf pc L (.int i :: .ref o :: r) M := by
  intro hw0 hn0 hz0 hk0 hl0
  obtain ⟨h1, h2⟩ := kk hw0 hn0 hz0 (mm_ks_cons trivial (mm_ks_tail (mm_ks_tail hk0))) hl0
  refine ⟨h1, fun ρ H locs ls hr hP hD hS hl => ?_⟩
  have h3 := h2 ρ H locs ls hr hP hD hS hl
  by_cases h16 : 16 ≤ o
  · have he := mm_enc_at (cA := cA) (ρ := ρ) (Y := Y) h16 (mm_ks_head (mm_ks_tail hk0))
    rw [mm_cell_arr ho, mm_ct0] at he
    rw [mm_i_heap h16] at h3
    exact va_iald hx hb hK hP (o - 16) 0 he rfl hin hd h3
  · have hz := hT o 0 n (by omega) (by rw [← mm_s_tab (M := M) hY h16]; exact ho)
    rw [← hr o (by omega)] at hz
    rw [mm_i_tab h16] at h3
    exact va_ti hx hb hz hS hin rfl hd h3
theorem ga_bald (hx : p.tables.exec = Jvm.exec) (hb : c.code = cc) (hY : mm_wfY Y) (hK : va_K D mm_cl (mm_tysA cA) s) (h16n : 16 ≤ n0) (hT : mm_cnT Y ρ0 A s s.heap) (ho : mm_s Y M o = .inr (1, n)) (hin : vp_in i n) (hd : decode cc pc = .ok (.baload, 1)) (kk : mm_Gd p l e R s m args below meth c Q D cA Y A nL n0 z0 oc ρ0 Mf (pc + 1) L (.int (mm_i Y M o i.toNatClampNeg) :: r) M) : mm_Gd p l e R s m args below meth c Q D cA Y A nL n0 z0 oc ρ0 Mf pc L (.int i :: .ref o :: r) M := by
  intro hw0 hn0 hz0 hk0 hl0
  obtain ⟨h1, h2⟩ := kk hw0 hn0 hz0 (mm_ks_cons trivial (mm_ks_tail (mm_ks_tail hk0))) hl0
  refine ⟨h1, fun ρ H locs ls hr hP hD hS hl => ?_⟩
  have h3 := h2 ρ H locs ls hr hP hD hS hl
  by_cases h16 : 16 ≤ o
  · have he := mm_enc_at (cA := cA) (ρ := ρ) (Y := Y) h16 (mm_ks_head (mm_ks_tail hk0))
    rw [mm_cell_arr ho, mm_ct1] at he
    rw [mm_i_heap h16] at h3
    exact va_zald hx hb hK hP (o - 16) 1 he rfl hin hd h3
  · have hz := hT o 1 n (by omega) (by rw [← mm_s_tab (M := M) hY h16]; exact ho)
    rw [← hr o (by omega)] at hz
    rw [mm_i_tab h16] at h3
    exact va_tz hx hb hz hS hin rfl hd h3
theorem ga_cald (hx : p.tables.exec = Jvm.exec) (hb : c.code = cc) (hY : mm_wfY Y) (hK : va_K D mm_cl (mm_tysA cA) s) (h16n : 16 ≤ n0) (hT : mm_cnT Y ρ0 A s s.heap) (ho : mm_s Y M o = .inr (2, n)) (h16 : ¬ 16 ≤ o) (hin : vp_in i n) (hd : decode cc pc = .ok (.caload, 1)) (kk : mm_Gd p l e R s m args below meth c Q D cA Y A nL n0 z0 oc ρ0 Mf (pc + 1) L (.int (mm_i Y M o i.toNatClampNeg) :: r) M) : mm_Gd p l e R s m args below meth c Q D cA Y A nL n0 z0 oc ρ0 Mf pc L (.int i :: .ref o :: r) M := by
  intro hw0 hn0 hz0 hk0 hl0
  obtain ⟨h1, h2⟩ := kk hw0 hn0 hz0 (mm_ks_cons trivial (mm_ks_tail (mm_ks_tail hk0))) hl0
  refine ⟨h1, fun ρ H locs ls hr hP hD hS hl => ?_⟩
  have h3 := h2 ρ H locs ls hr hP hD hS hl
  have hz := hT o 2 n (by omega) (by rw [← mm_s_tab (M := M) hY h16]; exact ho)
  rw [← hr o (by omega)] at hz
  rw [mm_i_tab h16] at h3
  exact va_tc hx hb hz hS hin rfl hd h3
theorem ga_lald (hx : p.tables.exec = Jvm.exec) (hb : c.code = cc) (hY : mm_wfY Y) (hK : va_K D mm_cl (mm_tysA cA) s) (h16n : 16 ≤ n0) (hT : mm_cnT Y ρ0 A s s.heap) (ho : mm_s Y M o = .inr (3, n)) (h16 : 16 ≤ o) (hin : vp_in i n) (hd : decode cc pc = .ok (.laload, 1)) (kk : mm_Gd p l e R s m args below meth c Q D cA Y A nL n0 z0 oc ρ0 Mf (pc + 1) L (.long (M.2.2.2.2.1 o i.toNatClampNeg) :: r) M) : mm_Gd p l e R s m args below meth c Q D cA Y A nL n0 z0 oc ρ0 Mf pc L (.int i :: .ref o :: r) M := by
  intro hw0 hn0 hz0 hk0 hl0
  obtain ⟨h1, h2⟩ := kk hw0 hn0 hz0 (mm_ks_cons trivial (mm_ks_tail (mm_ks_tail hk0))) hl0
  refine ⟨h1, fun ρ H locs ls hr hP hD hS hl => ?_⟩
  have he := mm_enc_at (cA := cA) (ρ := ρ) (Y := Y) h16 (mm_ks_head (mm_ks_tail hk0))
  rw [mm_cell_arr ho, mm_ct3] at he
  exact va_lald hx hb hK hP (o - 16) 3 he rfl hin hd (h2 ρ H locs ls hr hP hD hS hl)
theorem ga_aald4 (hx : p.tables.exec = Jvm.exec) (hb : c.code = cc) (hY : mm_wfY Y) (hK : va_K D mm_cl (mm_tysA cA) s) (h16n : 16 ≤ n0) (hT : mm_cnT Y ρ0 A s s.heap) (ho : mm_s Y M o = .inr (4, n)) (h16 : 16 ≤ o) (hin : vp_in i n) (hd : decode cc pc = .ok (.aaload, 1)) (kk : mm_Gd p l e R s m args below meth c Q D cA Y A nL n0 z0 oc ρ0 Mf (pc + 1) L (mm_rv (mm_p Y M o i.toNatClampNeg) :: r) M) : mm_Gd p l e R s m args below meth c Q D cA Y A nL n0 z0 oc ρ0 Mf pc L (.int i :: .ref o :: r) M := by
  intro hw0 hn0 hz0 hk0 hl0
  have hon : o < M.2.1 := mm_ks_head (mm_ks_tail hk0)
  obtain ⟨h1, h2⟩ := kk hw0 hn0 hz0 (mm_ks_cons (mm_okv_rv fun b hb2 => hw0.2 o _ b h16 hon hb2) (mm_ks_tail (mm_ks_tail hk0))) hl0
  refine ⟨h1, fun ρ H locs ls hr hP hD hS hl => ?_⟩
  have he := mm_enc_at (cA := cA) (ρ := ρ) (Y := Y) h16 hon
  rw [mm_cell_arr ho, mm_ct4] at he
  have hlt : i.toNatClampNeg < n := Nat.not_le.mp fun q => hin (Or.inr q)
  have h3 := h2 ρ H locs ls hr hP hD hS hl
  rw [List.map_cons, mm_tr_rv] at h3
  exact va_aldq hx hb hK hP (o - 16) 4 he rfl hin hd h3
theorem ga_aald5 (hx : p.tables.exec = Jvm.exec) (hb : c.code = cc) (hY : mm_wfY Y) (hK : va_K D mm_cl (mm_tysA cA) s) (h16n : 16 ≤ n0) (hT : mm_cnT Y ρ0 A s s.heap) (ho : mm_s Y M o = .inr (5, n)) (h16 : 16 ≤ o) (hin : vp_in i n) (hd : decode cc pc = .ok (.aaload, 1)) (kk : mm_Gd p l e R s m args below meth c Q D cA Y A nL n0 z0 oc ρ0 Mf (pc + 1) L (mm_rv (mm_p Y M o i.toNatClampNeg) :: r) M) : mm_Gd p l e R s m args below meth c Q D cA Y A nL n0 z0 oc ρ0 Mf pc L (.int i :: .ref o :: r) M := by
  intro hw0 hn0 hz0 hk0 hl0
  have hon : o < M.2.1 := mm_ks_head (mm_ks_tail hk0)
  obtain ⟨h1, h2⟩ := kk hw0 hn0 hz0 (mm_ks_cons (mm_okv_rv fun b hb2 => hw0.2 o _ b h16 hon hb2) (mm_ks_tail (mm_ks_tail hk0))) hl0
  refine ⟨h1, fun ρ H locs ls hr hP hD hS hl => ?_⟩
  have he := mm_enc_at (cA := cA) (ρ := ρ) (Y := Y) h16 hon
  rw [mm_cell_arr ho, mm_ct5] at he
  have hlt : i.toNatClampNeg < n := Nat.not_le.mp fun q => hin (Or.inr q)
  have h3 := h2 ρ H locs ls hr hP hD hS hl
  rw [List.map_cons, mm_tr_rv] at h3
  exact W.aald (v := va_rf ((mm_p Y M o i.toNatClampNeg).map ρ)) (ty := .array .int) hx hb (hP (o - 16) _ he) ((hK.2 5 _ rfl).1 n (fun j => va_rf ((mm_p Y M o j).map ρ))) rfl (fun q => by cases q) (by show ¬ (i < 0 ∨ (arrV _ _ _).slots.size ≤ _); rw [arrV_size]; exact hin) (by show (arrV _ _ _).slots[_]? = _; rw [arrV_read _ _ hlt]) rfl rfl hd h3
theorem ga_iast (hx : p.tables.exec = Jvm.exec) (hb : c.code = cc) (hY : mm_wfY Y) (hK : va_K D mm_cl (mm_tysA cA) s) (h16n : 16 ≤ n0) (hT : mm_cnT Y ρ0 A s s.heap) {x : Int32}  (ho : mm_s Y M o = .inr (0, n)) (h16 : 16 ≤ o) (hin : vp_in i n) (hd : decode cc pc = .ok (.iastore, 1)) (kk : mm_Gd p l e R s m args below meth c Q D cA Y A nL n0 z0 oc ρ0 Mf (pc + 1) L r (mm_wI M o i.toNatClampNeg x)) : mm_Gd p l e R s m args below meth c Q D cA Y A nL n0 z0 oc ρ0 Mf pc L (.int x :: .int i :: .ref o :: r) M := by
  intro hw0 hn0 hz0 hk0 hl0
  have hon : o < M.2.1 := mm_ks_head (mm_ks_tail (mm_ks_tail hk0))
  have hw1 : mm_wf Y (mm_wI M o i.toNatClampNeg x) := hw0
  obtain ⟨h1, h2⟩ := kk hw1 hn0 hz0 (mm_ks_tail (mm_ks_tail (mm_ks_tail hk0))) hl0
  refine ⟨h1, fun ρ H locs ls hr hP hD hS hl => ?_⟩
  have he := mm_enc_at (cA := cA) (ρ := ρ) (Y := Y) h16 hon
  rw [mm_cell_arr ho, mm_ct0] at he
  have hcell : mm_cell cA ρ Y (mm_wI M o i.toNatClampNeg x) o = .inl (cA 0, n, .inl (upd (M.2.2.2.1 o) i.toNatClampNeg x)) := by
    rw [mm_cell_arr (M := (mm_wI M o i.toNatClampNeg x)) ho, mm_ct0]
    congr 3
    exact congrArg _ (mm_up_upd _ _ _ _)
  have hset := mm_enc_set (cA := cA) (ρ := ρ) (Y := Y) (M := M) (M' := (mm_wI M o i.toNatClampNeg x)) h16 hon rfl hcell (fun b _ _ hb3 => mm_cell_wI hb3)
  exact va_iast hx hb hK hP hD hS (o - 16) 0 he rfl hin hd (fun H1 locs1 hP1 hD1 hS1 => h2 ρ H1 locs1 ls hr (by rw [← hset]; exact hP1) (by rw [← hset]; exact hD1) hS1 hl)
theorem ga_bast (hx : p.tables.exec = Jvm.exec) (hb : c.code = cc) (hY : mm_wfY Y) (hK : va_K D mm_cl (mm_tysA cA) s) (h16n : 16 ≤ n0) (hT : mm_cnT Y ρ0 A s s.heap) {x : Int32}  (ho : mm_s Y M o = .inr (1, n)) (h16 : 16 ≤ o) (hin : vp_in i n) (hd : decode cc pc = .ok (.bastore, 1)) (kk : mm_Gd p l e R s m args below meth c Q D cA Y A nL n0 z0 oc ρ0 Mf (pc + 1) L r (mm_wI M o i.toNatClampNeg (vp_nar .boolean x))) : mm_Gd p l e R s m args below meth c Q D cA Y A nL n0 z0 oc ρ0 Mf pc L (.int x :: .int i :: .ref o :: r) M := by
  intro hw0 hn0 hz0 hk0 hl0
  have hon : o < M.2.1 := mm_ks_head (mm_ks_tail (mm_ks_tail hk0))
  have hw1 : mm_wf Y (mm_wI M o i.toNatClampNeg (vp_nar .boolean x)) := hw0
  obtain ⟨h1, h2⟩ := kk hw1 hn0 hz0 (mm_ks_tail (mm_ks_tail (mm_ks_tail hk0))) hl0
  refine ⟨h1, fun ρ H locs ls hr hP hD hS hl => ?_⟩
  have he := mm_enc_at (cA := cA) (ρ := ρ) (Y := Y) h16 hon
  rw [mm_cell_arr ho, mm_ct1] at he
  have hcell : mm_cell cA ρ Y (mm_wI M o i.toNatClampNeg (vp_nar .boolean x)) o = .inl (cA 1, n, .inl (upd (M.2.2.2.1 o) i.toNatClampNeg (vp_nar .boolean x))) := by
    rw [mm_cell_arr (M := (mm_wI M o i.toNatClampNeg (vp_nar .boolean x))) ho, mm_ct1]
    congr 3
    exact congrArg _ (mm_up_upd _ _ _ _)
  have hset := mm_enc_set (cA := cA) (ρ := ρ) (Y := Y) (M := M) (M' := (mm_wI M o i.toNatClampNeg (vp_nar .boolean x))) h16 hon rfl hcell (fun b _ _ hb3 => mm_cell_wI hb3)
  exact va_zast hx hb hK hP hD hS (o - 16) 1 he rfl hin hd (fun H1 locs1 hP1 hD1 hS1 => h2 ρ H1 locs1 ls hr (by rw [← hset]; exact hP1) (by rw [← hset]; exact hD1) hS1 hl)
theorem ga_last (hx : p.tables.exec = Jvm.exec) (hb : c.code = cc) (hY : mm_wfY Y) (hK : va_K D mm_cl (mm_tysA cA) s) (h16n : 16 ≤ n0) (hT : mm_cnT Y ρ0 A s s.heap) {x : Int64}  (ho : mm_s Y M o = .inr (3, n)) (h16 : 16 ≤ o) (hin : vp_in i n) (hd : decode cc pc = .ok (.lastore, 1)) (kk : mm_Gd p l e R s m args below meth c Q D cA Y A nL n0 z0 oc ρ0 Mf (pc + 1) L r (mm_wJ M o i.toNatClampNeg x)) : mm_Gd p l e R s m args below meth c Q D cA Y A nL n0 z0 oc ρ0 Mf pc L (.long x :: .int i :: .ref o :: r) M := by
  intro hw0 hn0 hz0 hk0 hl0
  have hon : o < M.2.1 := mm_ks_head (mm_ks_tail (mm_ks_tail hk0))
  have hw1 : mm_wf Y (mm_wJ M o i.toNatClampNeg x) := hw0
  obtain ⟨h1, h2⟩ := kk hw1 hn0 hz0 (mm_ks_tail (mm_ks_tail (mm_ks_tail hk0))) hl0
  refine ⟨h1, fun ρ H locs ls hr hP hD hS hl => ?_⟩
  have he := mm_enc_at (cA := cA) (ρ := ρ) (Y := Y) h16 hon
  rw [mm_cell_arr ho, mm_ct3] at he
  have hcell : mm_cell cA ρ Y (mm_wJ M o i.toNatClampNeg x) o = .inl (cA 3, n, .inr (.inl (vp_updL (M.2.2.2.2.1 o) i.toNatClampNeg x))) := by
    rw [mm_cell_arr (M := (mm_wJ M o i.toNatClampNeg x)) ho, mm_ct3]
    congr 3
    exact congrArg _ (congrArg _ (mm_up_updL _ _ _ _))
  have hset := mm_enc_set (cA := cA) (ρ := ρ) (Y := Y) (M := M) (M' := (mm_wJ M o i.toNatClampNeg x)) h16 hon rfl hcell (fun b _ _ hb3 => mm_cell_wJ hb3)
  exact va_last hx hb hK hP hD hS (o - 16) 3 he rfl hin hd (fun H1 locs1 hP1 hD1 hS1 => h2 ρ H1 locs1 ls hr (by rw [← hset]; exact hP1) (by rw [← hset]; exact hD1) hS1 hl)
theorem ga_aast4 (hx : p.tables.exec = Jvm.exec) (hb : c.code = cc) (hY : mm_wfY Y) (hK : va_K D mm_cl (mm_tysA cA) s) (h16n : 16 ≤ n0) (hT : mm_cnT Y ρ0 A s s.heap) {x : Nat} (hfr : mm_free Y o i.toNatClampNeg = true) (hx16 : 16 ≤ x) (hxo : mm_s Y M x = .inl 0) (ho : mm_s Y M o = .inr (4, n)) (h16 : 16 ≤ o) (hin : vp_in i n) (hd : decode cc pc = .ok (.aastore, 1)) (kk : mm_Gd p l e R s m args below meth c Q D cA Y A nL n0 z0 oc ρ0 Mf (pc + 1) L r (mm_wP M o i.toNatClampNeg (some x))) : mm_Gd p l e R s m args below meth c Q D cA Y A nL n0 z0 oc ρ0 Mf pc L (.ref x :: .int i :: .ref o :: r) M := by
  intro hw0 hn0 hz0 hk0 hl0
  have hon : o < M.2.1 := mm_ks_head (mm_ks_tail (mm_ks_tail hk0))
  have hxn : x < M.2.1 := mm_ks_head hk0
  have hw1 : mm_wf Y (mm_wP M o i.toNatClampNeg (some x)) := by
    refine ⟨hw0.1, fun a j b ha1 ha2 hb2 => ?_⟩
    by_cases e : a = o
    · subst e
      by_cases e2 : j = i.toNatClampNeg
      · subst e2
        rw [mm_p_wP_same hfr] at hb2
        cases hb2
        exact hxn
      · rw [mm_p_wP_nk e2] at hb2
        exact hw0.2 a j b ha1 ha2 hb2
    · rw [mm_p_wP e] at hb2
      exact hw0.2 a j b ha1 ha2 hb2
  obtain ⟨h1, h2⟩ := kk hw1 hn0 hz0 (mm_ks_tail (mm_ks_tail (mm_ks_tail hk0))) hl0
  refine ⟨h1, fun ρ H locs ls hr hP hD hS hl => ?_⟩
  have he := mm_enc_at (cA := cA) (ρ := ρ) (Y := Y) h16 hon
  rw [mm_cell_arr ho, mm_ct4] at he
  have hcell : mm_cell cA ρ Y (mm_wP M o i.toNatClampNeg (some x)) o = .inl (cA 4, n, .inr (.inr (.inr (.inr (va_up (fun k => (mm_p Y M o k).map ρ) i.toNatClampNeg (some (ρ x))))))) := by
    rw [mm_cell_arr (M := (mm_wP M o i.toNatClampNeg (some x))) ho, mm_ct4]
    congr 3
    refine congrArg _ (congrArg _ (congrArg _ (congrArg _ (funext fun j => ?_))))
    by_cases e2 : j = i.toNatClampNeg
    · subst e2
      rw [mm_p_wP_same hfr]
      simp [va_up]
    · rw [mm_p_wP_nk e2]
      simp [va_up, e2]
  have hset := mm_enc_set (cA := cA) (ρ := ρ) (Y := Y) (M := M) (M' := (mm_wP M o i.toNatClampNeg (some x))) h16 hon rfl hcell (fun b _ _ hb3 => mm_cell_wP hb3)
  have hex := mm_enc_at (cA := cA) (ρ := ρ) (Y := Y) (M := M) hx16 hxn
  rw [mm_cell_obj hxo] at hex
  exact va_astq hx hb hK hP hD hS (o - 16) 4 (x - 16) 0 (r := (RX0, TX0, 11)) he rfl hex rfl hin hd (fun H1 locs1 hP1 hD1 hS1 => h2 ρ H1 locs1 ls hr (by rw [← hset]; exact hP1) (by rw [← hset]; exact hD1) hS1 hl)
theorem ga_aast5 (hx : p.tables.exec = Jvm.exec) (hb : c.code = cc) (hY : mm_wfY Y) (hK : va_K D mm_cl (mm_tysA cA) s) (h16n : 16 ≤ n0) (hT : mm_cnT Y ρ0 A s s.heap) {x : Nat} {nx : Nat} (h5 : mm_c5 cA s) (hfr : mm_free Y o i.toNatClampNeg = true) (hx16 : 16 ≤ x) (hxo : mm_s Y M x = .inr (0, nx)) (ho : mm_s Y M o = .inr (5, n)) (h16 : 16 ≤ o) (hin : vp_in i n) (hd : decode cc pc = .ok (.aastore, 1)) (kk : mm_Gd p l e R s m args below meth c Q D cA Y A nL n0 z0 oc ρ0 Mf (pc + 1) L r (mm_wP M o i.toNatClampNeg (some x))) : mm_Gd p l e R s m args below meth c Q D cA Y A nL n0 z0 oc ρ0 Mf pc L (.ref x :: .int i :: .ref o :: r) M := by
  intro hw0 hn0 hz0 hk0 hl0
  have hon : o < M.2.1 := mm_ks_head (mm_ks_tail (mm_ks_tail hk0))
  have hxn : x < M.2.1 := mm_ks_head hk0
  have hw1 : mm_wf Y (mm_wP M o i.toNatClampNeg (some x)) := by
    refine ⟨hw0.1, fun a j b ha1 ha2 hb2 => ?_⟩
    by_cases e : a = o
    · subst e
      by_cases e2 : j = i.toNatClampNeg
      · subst e2
        rw [mm_p_wP_same hfr] at hb2
        cases hb2
        exact hxn
      · rw [mm_p_wP_nk e2] at hb2
        exact hw0.2 a j b ha1 ha2 hb2
    · rw [mm_p_wP e] at hb2
      exact hw0.2 a j b ha1 ha2 hb2
  obtain ⟨h1, h2⟩ := kk hw1 hn0 hz0 (mm_ks_tail (mm_ks_tail (mm_ks_tail hk0))) hl0
  refine ⟨h1, fun ρ H locs ls hr hP hD hS hl => ?_⟩
  have he := mm_enc_at (cA := cA) (ρ := ρ) (Y := Y) h16 hon
  rw [mm_cell_arr ho, mm_ct5] at he
  have hcell : mm_cell cA ρ Y (mm_wP M o i.toNatClampNeg (some x)) o = .inl (cA 5, n, .inr (.inr (.inr (.inr (va_up (fun k => (mm_p Y M o k).map ρ) i.toNatClampNeg (some (ρ x))))))) := by
    rw [mm_cell_arr (M := (mm_wP M o i.toNatClampNeg (some x))) ho, mm_ct5]
    congr 3
    refine congrArg _ (congrArg _ (congrArg _ (congrArg _ (funext fun j => ?_))))
    by_cases e2 : j = i.toNatClampNeg
    · subst e2
      rw [mm_p_wP_same hfr]
      simp [va_up]
    · rw [mm_p_wP_nk e2]
      simp [va_up, e2]
  have hset := mm_enc_set (cA := cA) (ρ := ρ) (Y := Y) (M := M) (M' := (mm_wP M o i.toNatClampNeg (some x))) h16 hon rfl hcell (fun b _ _ hb3 => mm_cell_wP hb3)
  have hex := mm_enc_at (cA := cA) (ρ := ρ) (Y := Y) (M := M) hx16 hxn
  rw [mm_cell_arr hxo, mm_ct0] at hex
  have hlt : i.toNatClampNeg < n := Nat.not_le.mp fun q => hin (Or.inr q)
  have hi0 : ¬ i < 0 := fun q => hin (Or.inl q)
  obtain ⟨-, kA, kI, k1, k2, k3, k4⟩ := h5
  refine W.aast hx hb (hP (o - 16) _ he) (fun q h => by cases h) (fun h => by cases h) k1 k2 rfl k3 ⟨hi0, by show _ < (arrV _ _ _).slots.size; rw [arrV_size]; exact hlt⟩ (hP (x - 16) _ hex) (fun q h => by cases h) k3 k4 rfl rfl hd fun H1 e z oq => ?_
  have hat : va_at D mm_cl (ρ o, .inl (cA 5, n, .inr (.inr (.inr (.inr (va_up (fun k => (mm_p Y M o k).map ρ) i.toNatClampNeg (some (ρ x)))))))) H1 := by
    show H1[ρ o]? = some (vp_cell _ _)
    rw [e]
    rw [vp_cell_q, vp_cell_q, arrV_store]
    congr 2
    funext q
    by_cases hq : q = i.toNatClampNeg
    · subst hq
      simp [updV, va_up, va_rf]
    · simp [updV, va_up, hq]
  exact h2 ρ H1 _ ls hr (by rw [← hset]; exact hP.set hD he hat oq) (by rw [← hset]; exact hD.set he) (hS.put z oq (hD.2 (o - 16) _ he)) hl
theorem mm_new_s {Y : mmY} {M : mmM} {q : mmSh} {w b : Nat} (h : b ≠ M.2.1) : mm_s Y (mm_new M q w) b = mm_s Y M b := by
  unfold mm_s
  simp only [mm_ups, if_neg h]
theorem mm_new_sn {Y : mmY} {M : mmM} {q : mmSh} {w : Nat} (hY : Y.1 ≤ M.2.1) : mm_s Y (mm_new M q w) M.2.1 = q := by
  unfold mm_s
  rw [show Nat.blt M.2.1 Y.1 = false from Bool.eq_false_iff.mpr fun z => by have := Nat.blt_eq.mp z; omega]
  simp [mm_ups]
theorem mm_new_p {Y : mmY} {M : mmM} {q : mmSh} {w b : Nat} (h : b ≠ M.2.1) (k : Nat) : mm_p Y (mm_new M q w) b k = mm_p Y M b k := by
  unfold mm_p
  cases mm_fx Y b k with
  | some r => rfl
  | none => simp only [mm_row_ne _ _ h]
theorem mm_new_pn {Y : mmY} {M : mmM} {q : mmSh} {w : Nat} (hY : Y.1 ≤ M.2.1) (k : Nat) : mm_p Y (mm_new M q w) M.2.1 k = none := by
  unfold mm_p mm_fx
  rw [show Nat.blt M.2.1 Y.1 = false from Bool.eq_false_iff.mpr fun z => by have := Nat.blt_eq.mp z; omega]
  simp only [cond_false, mm_row_same]
theorem mm_new_wf {Y : mmY} {M : mmM} {q : mmSh} {w : Nat} (h : mm_wf Y M) : mm_wf Y (mm_new M q w) := by
  refine ⟨Nat.le_succ_of_le h.1, fun a k b h1 h2 h3 => ?_⟩
  by_cases e : a = M.2.1
  · subst e
    rw [mm_new_pn h.1] at h3
    cases h3
  · rw [mm_new_p e] at h3
    have h2 : a < M.2.1 + 1 := h2
    exact Nat.lt_succ_of_lt (h.2 a k b h1 (by omega) h3)
theorem mm_new_cell {cA : Nat → ClassId} {ρ ρ' : Nat → Nat} {Y : mmY} {M : mmM} {q : mmSh} {w b : Nat} (hw : mm_wf Y M) (h16 : 16 ≤ b) (hb : b < M.2.1) (hr : ∀ a, a < M.2.1 → ρ' a = ρ a) : mm_cell cA ρ' Y (mm_new M q w) b = mm_cell cA ρ Y M b :=
  mm_cell_congr (mm_new_s (by omega)) (mm_row_ne _ _ (by omega)) (mm_row_ne _ _ (by omega)) fun k => by
    rw [mm_new_p (by omega)]
    cases h : mm_p Y M b k with
    | none => rfl
    | some x => simp only [Option.map_some]; rw [hr x (hw.2 b k x h16 hb h)]
def mm_ext (ρ : Nat → Nat) (n q : Nat) : Nat → Nat := fun b => if b = n then q else ρ b
theorem mm_ext_lt {ρ : Nat → Nat} {n q b : Nat} (h : b < n) : mm_ext ρ n q b = ρ b := by simp [mm_ext, Nat.ne_of_lt h]
theorem mm_ext_n {ρ : Nat → Nat} {n q : Nat} : mm_ext ρ n q n = q := by simp [mm_ext]
/-- a new cell in the real heap: how it goes on -/
theorem ga_born {q : mmSh} {w a : Nat} {x : va_E} {H1 : Heap} {locs : List Loc} {ls : Array Slot} {ρ : Nat → Nat} (hw0 : mm_wf Y M) (h16 : 16 ≤ M.2.1) (hn0 : n0 ≤ M.2.1) (hk0 : mm_ks M.2.1 r) (hr : ∀ b, b < n0 → ρ b = ρ0 b) (hl : mm_lc ρ M.2.1 L ls nL)
    (hcell : mm_cell cA (mm_ext ρ M.2.1 a) Y (mm_new M q w) M.2.1 = x) (hP : va_P D mm_cl (mm_enc cA ρ Y M ++ [(a, x)]) H1) (hD : va_D A (mm_enc cA ρ Y M ++ [(a, x)])) (hS : va_S A s.heap H1 locs)
    (h2 : ∀ (ρ : Nat → Nat) (H : Heap) (locs : List Loc) (ls : Array Slot), (∀ b, b < n0 → ρ b = ρ0 b) → va_P D mm_cl (mm_enc cA ρ Y (mm_new M q w)) H → va_D A (mm_enc cA ρ Y (mm_new M q w)) → va_S A s.heap H locs → mm_lc ρ (mm_new M q w).2.1 L ls nL →
      W p l e R s m args below meth c H locs ((mm_new M q w).2.1 + oc - n0) ((mm_new M q w).2.2.1 - z0) Q (F0 m pc ls ((.ref M.2.1 :: r).map (mm_tr ρ)))) :
    W p l e R s m args below meth c H1 locs (M.2.1 + 1 + oc - n0) (M.2.2.1 + w - z0) Q (F0 m pc ls (.ref a :: r.map (mm_tr ρ))) := by
  have hx : mm_enc cA (mm_ext ρ M.2.1 a) Y (mm_new M q w) = mm_enc cA ρ Y M ++ [(a, x)] := by
    rw [mm_enc_push (M := M) (ρ := ρ) h16 rfl (fun b hb => mm_ext_lt hb) (fun b h1 hb => mm_new_cell hw0 h1 hb (fun c hc => mm_ext_lt hc)), mm_ext_n, hcell]
  have h3 := h2 (mm_ext ρ M.2.1 a) H1 locs ls (fun b hb => by rw [mm_ext_lt (by omega)]; exact hr b hb) (by rw [hx]; exact hP) (by rw [hx]; exact hD) hS (mm_lc_le hl (Nat.le_succ _) (fun b hb => mm_ext_lt hb))
  rw [List.map_cons, mm_ks_tr hk0 (fun b hb => mm_ext_lt hb)] at h3
  have e : mm_tr (mm_ext ρ M.2.1 a) (.ref M.2.1) = .ref a := by show Value.ref _ = _; rw [mm_ext_n]
  rw [e] at h3
  exact h3
theorem ga_newa (hx : p.tables.exec = Jvm.exec) (hb : c.code = cc) (hY : mm_wfY Y) (hK : va_K D mm_cl (mm_tysA cA) s) (h16n : 16 ≤ n0) (hA : ∀ q, s.heap.size ≤ q → A q) (hRc : Mf.2.1 + oc - n0 ≤ R.cells) (hRs : Mf.2.2.1 - z0 ≤ R.slots) {at0 : ArrayType} {ty : Nat} (hty : (at0 = .int ∧ ty = 0) ∨ (at0 = .boolean ∧ ty = 1) ∨ (at0 = .long ∧ ty = 3)) {x : Int32} (hx0 : ¬ x < 0) (hxl : x.toNatClampNeg ≤ 65536) (harr : (Cond.arrayClass (newarray.typeOf at0)).before args s = true) (hd : decode cc pc = .ok (.newarray at0, 2)) (kk : mm_Gd p l e R s m args below meth c Q D cA Y A nL n0 z0 oc ρ0 Mf (pc + 2) L (.ref M.2.1 :: r) (mm_new M (.inr (ty, x.toNatClampNeg)) x.toNatClampNeg)) : mm_Gd p l e R s m args below meth c Q D cA Y A nL n0 z0 oc ρ0 Mf pc L (.int x :: r) M := by
  intro hw0 hn0 hz0 hk0 hl0
  obtain ⟨h1, h2⟩ := kk (mm_new_wf hw0) (Nat.le_succ_of_le hn0) (Nat.le_add_right_of_le hz0) (mm_ks_cons (Nat.lt_succ_self _) (mm_ks_le (mm_ks_tail hk0) (Nat.le_succ _))) (fun i v hv => mm_okv_le (hl0 i v hv) (Nat.le_succ _))
  have t2 : M.2.1 + 1 ≤ Mf.2.1 := h1.2.1
  have t3 : M.2.2.1 + x.toNatClampNeg ≤ Mf.2.2.1 := h1.2.2
  refine ⟨⟨h1.1, by omega, by omega⟩, fun ρ H locs ls hr hP hD hS hl => ?_⟩
  rcases hty with ⟨rfl, rfl⟩ | ⟨rfl, rfl⟩ | ⟨rfl, rfl⟩
  · refine va_newa (a0 := (x.toNatClampNeg, .inl (fun _ => 0))) hx hb harr rfl hK hP hD hS hA (fun c9 => rfl) hx0 rfl (by show x.toNatClampNeg * 4 ≤ _; omega) (by omega) (by omega) hd (fun q cN H1 hK1 hP1 hD1 hS1 => ?_)
    have hcn : cN = cA 0 := by
      have a1 := (hK1.2 6 (cN, .int) rfl).2
      have a2 := (hK.2 0 (cA 0, .int) rfl).2
      exact Option.some.inj (Eq.trans (Eq.symm a1) a2)
    subst hcn
    refine W.cs (cells' := M.2.1 + 1 + oc - n0) (slots' := M.2.2.1 + x.toNatClampNeg - z0) (by omega) (by omega) ?_
    exact ga_born hw0 (by omega) hn0 (mm_ks_tail hk0) hr hl (by rw [mm_cell_arr (mm_new_sn hw0.1), mm_ct0]; simp only [mm_row_same]) hP1 hD1 hS1 h2
  · refine va_newa (a0 := (x.toNatClampNeg, .inl (fun _ => 0))) hx hb harr rfl hK hP hD hS hA (fun c9 => rfl) hx0 rfl (by show x.toNatClampNeg * 1 ≤ _; omega) (by omega) (by omega) hd (fun q cN H1 hK1 hP1 hD1 hS1 => ?_)
    have hcn : cN = cA 1 := by
      have a1 := (hK1.2 6 (cN, .boolean) rfl).2
      have a2 := (hK.2 1 (cA 1, .boolean) rfl).2
      exact Option.some.inj (Eq.trans (Eq.symm a1) a2)
    subst hcn
    refine W.cs (cells' := M.2.1 + 1 + oc - n0) (slots' := M.2.2.1 + x.toNatClampNeg - z0) (by omega) (by omega) ?_
    exact ga_born hw0 (by omega) hn0 (mm_ks_tail hk0) hr hl (by rw [mm_cell_arr (mm_new_sn hw0.1), mm_ct1]; simp only [mm_row_same]) hP1 hD1 hS1 h2
  · refine va_newa (a0 := (x.toNatClampNeg, .inr (.inl (fun _ => 0)))) hx hb harr rfl hK hP hD hS hA (fun c9 => rfl) hx0 rfl (by show x.toNatClampNeg * 8 ≤ _; omega) (by omega) (by omega) hd (fun q cN H1 hK1 hP1 hD1 hS1 => ?_)
    have hcn : cN = cA 3 := by
      have a1 := (hK1.2 6 (cN, .long) rfl).2
      have a2 := (hK.2 3 (cA 3, .long) rfl).2
      exact Option.some.inj (Eq.trans (Eq.symm a1) a2)
    subst hcn
    refine W.cs (cells' := M.2.1 + 1 + oc - n0) (slots' := M.2.2.1 + x.toNatClampNeg - z0) (by omega) (by omega) ?_
    exact ga_born hw0 (by omega) hn0 (mm_ks_tail hk0) hr hl (by rw [mm_cell_arr (mm_new_sn hw0.1), mm_ct3]; simp only [mm_row_same]) hP1 hD1 hS1 h2
theorem ga_anew (hx : p.tables.exec = Jvm.exec) (hb : c.code = cc) (hY : mm_wfY Y) (hK : va_K D mm_cl (mm_tysA cA) s) (h16n : 16 ≤ n0) (hA : ∀ q, s.heap.size ≤ q → A q) (hRc : Mf.2.1 + oc - n0 ≤ R.cells) (hRs : Mf.2.2.1 - z0 ≤ R.slots) {own : String} {index : Nat} (hown : s.vm.findClass own = some m.cls) (hcl : (Cond.classLink own index RX0).before args s = true) (hov : va_AO RX0 s) {x : Int32} (hx0 : ¬ x < 0) (hxl : x.toNatClampNeg ≤ 65536) (hd : decode cc pc = .ok (.anewarray index, 3)) (kk : mm_Gd p l e R s m args below meth c Q D cA Y A nL n0 z0 oc ρ0 Mf (pc + 3) L (.ref M.2.1 :: r) (mm_new M (.inr (4, x.toNatClampNeg)) x.toNatClampNeg)) : mm_Gd p l e R s m args below meth c Q D cA Y A nL n0 z0 oc ρ0 Mf pc L (.int x :: r) M := by
  intro hw0 hn0 hz0 hk0 hl0
  obtain ⟨h1, h2⟩ := kk (mm_new_wf hw0) (Nat.le_succ_of_le hn0) (Nat.le_add_right_of_le hz0) (mm_ks_cons (Nat.lt_succ_self _) (mm_ks_le (mm_ks_tail hk0) (Nat.le_succ _))) (fun i v hv => mm_okv_le (hl0 i v hv) (Nat.le_succ _))
  have t2 : M.2.1 + 1 ≤ Mf.2.1 := h1.2.1
  have t3 : M.2.2.1 + x.toNatClampNeg ≤ Mf.2.2.1 := h1.2.2
  refine ⟨⟨h1.1, by omega, by omega⟩, fun ρ H locs ls hr hP hD hS hl => ?_⟩
  refine va_newq hx hb hown hcl hov hK hP hD hS hA hx0 rfl (by omega) (by omega) (by omega) hd (fun q cN H1 hK1 hP1 hD1 hS1 => ?_)
  have hcn : cN = cA 4 := by
    obtain ⟨_, _, _, _, _, a1⟩ := (hK1.2 6 (cN, .object RX0) rfl).2
    obtain ⟨_, _, _, _, _, a2⟩ := (hK.2 4 (cA 4, .object RX0) rfl).2
    exact Option.some.inj (a1.symm.trans a2)
  subst hcn
  refine W.cs (cells' := M.2.1 + 1 + oc - n0) (slots' := M.2.2.1 + x.toNatClampNeg - z0) (by omega) (by omega) ?_
  exact ga_born hw0 (by omega) hn0 (mm_ks_tail hk0) hr hl (by rw [mm_cell_arr (mm_new_sn hw0.1), mm_ct4]; simp only [mm_new_pn hw0.1]; rfl) hP1 hD1 hS1 h2
theorem ga_new (hx : p.tables.exec = Jvm.exec) (hb : c.code = cc) (hY : mm_wfY Y) (hK : va_K D mm_cl (mm_tysA cA) s) (h16n : 16 ≤ n0) (hA : ∀ q, s.heap.size ≤ q → A q) (hRc : Mf.2.1 + oc - n0 ≤ R.cells) (hRs : Mf.2.2.1 - z0 ≤ R.slots) {Ts : List Cond} {own : String} {index ci : Nat} {q : vw_C} (hts : ∀ w ∈ Ts, w.before args s = true) (hown : s.vm.findClass own = some m.cls) (hc : mm_cl[ci]? = some q) (hin : ∀ w ∈ u_ws q.1 q.2.1 q.2.2, w ∈ Ts) (hcl : (Cond.classLink own index q.1).before args s = true) (hinst : (Cond.instantiable q.1 q.2.2).before args s = true) (hini : (Cond.initialized q.1).before args s = true) (hd : decode cc pc = .ok (.new index, 3)) (kk : mm_Gd p l e R s m args below meth c Q D cA Y A nL n0 z0 oc ρ0 Mf (pc + 3) L (.ref M.2.1 :: K) (mm_new M (.inl ci) q.2.2)) : mm_Gd p l e R s m args below meth c Q D cA Y A nL n0 z0 oc ρ0 Mf pc L K M := by
  intro hw0 hn0 hz0 hk0 hl0
  obtain ⟨h1, h2⟩ := kk (mm_new_wf hw0) (Nat.le_succ_of_le hn0) (Nat.le_add_right_of_le hz0) (mm_ks_cons (Nat.lt_succ_self _) (mm_ks_le hk0 (Nat.le_succ _))) (fun i v hv => mm_okv_le (hl0 i v hv) (Nat.le_succ _))
  have t2 : M.2.1 + 1 ≤ Mf.2.1 := h1.2.1
  have t3 : M.2.2.1 + q.2.2 ≤ Mf.2.2.1 := h1.2.2
  refine ⟨⟨h1.1, by omega, by omega⟩, fun ρ H locs ls hr hP hD hS hl => ?_⟩
  obtain ⟨hsz, hty, hnm⟩ := mm_cl_ok ci q hc
  have hci : ci < 13 := (List.getElem?_eq_some_iff.mp hc).1
  refine va_new (fs := mm_fs (fun _ => 0) Y (mm_new M (.inl ci) q.2.2) M.2.1 ci) hx hb hts hin (mm_tyOf ci) hty hown hcl hinst hini hK hP hD hS hA hc (fun j hj => ?_) (by omega) (by omega) hd (fun a H1 hP1 hD1 hS1 => ?_)
  · have hk : mm_tk (mm_tyOf ci j) < 4 := by
      have a1 := List.all_eq_true.mp mm_tyk ci (List.mem_range.mpr hci)
      have a2 := List.all_eq_true.mp a1 j (List.mem_range.mpr (by rw [mm_size_of hc]; exact hj))
      exact of_decide_eq_true a2
    unfold vp_V
    rw [List.getD_eq_getElem?_getD, mm_fs_at (by rw [mm_size_of hc]; exact hj)]
    unfold mm_fv
    simp only [mm_row_same, mm_new_pn hw0.1, Option.getD_some]
    cases h9 : mm_tyOf ci j <;> first | rfl | (rw [h9] at hk; exact absurd hk (by decide))
  · refine W.cs (cells' := M.2.1 + 1 + oc - n0) (slots' := M.2.2.1 + q.2.2 - z0) (by omega) (by omega) ?_
    refine ga_born hw0 (by omega) hn0 hk0 hr hl ?_ hP1 hD1 hS1 h2
    rw [mm_cell_obj (mm_new_sn hw0.1)]
    congr 2
    unfold mm_fs
    apply List.map_congr_left
    intro j _
    unfold mm_fv
    simp only [mm_new_pn hw0.1]
    rfl
end GA
