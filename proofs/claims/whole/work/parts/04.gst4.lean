section GH
variable {p : Program} {l : Launch} {e : Env} {R : Room} {s : State} {m : MethodId} {args : Array Value} {below : List Frame} {meth : Method} {c : Code} {Q : State → Prop} {D : va_G} {cA : Nat → ClassId} {Y : mmY} {A : Nat → Prop} {nL n0 z0 oc : Nat} {ρ0 : Nat → Nat} {Mf : mmM} {cc : ByteArray} {pc : Nat} {L : mmL} {K r : List Value} {M : mmM}
variable {Ts : List Cond} {own C : String} {index o k ci : Nat} {q : vw_C}
theorem gh_getI (hx : p.tables.exec = Jvm.exec) (hb : c.code = cc) (hY : mm_wfY Y) (hts : ∀ w ∈ Ts, w.before args s = true) (hown : s.vm.findClass own = some m.cls) (hK : va_K D mm_cl (mm_tysA cA) s) (hc : mm_cl[ci]? = some q) (hin : ∀ w ∈ u_ws q.1 q.2.1 q.2.2, w ∈ Ts) (hk : k < q.2.2) (hlink : (Cond.fieldLink own index (q.2.1 k).1 (q.2.1 k).2.1 (q.2.1 k).2.2.1).before args s = true ∨ ∃ host, (Cond.fieldLinkNest own index (q.2.1 k).1 (q.2.1 k).2.1 (q.2.1 k).2.2.1 host).before args s = true) (ho : mm_s Y M o = .inl ci) (ht : mm_tyOf ci k = .int ∨ mm_tyOf ci k = .boolean) (hd : decode cc pc = .ok (.getfield index, 3)) (kk : mm_Gd p l e R s m args below meth c Q D cA Y A nL n0 z0 oc ρ0 Mf (pc + 3) L (.int (M.2.2.2.1 o k) :: r) M) : mm_Gd p l e R s m args below meth c Q D cA Y A nL n0 z0 oc ρ0 Mf pc L (.ref o :: r) M := by
  intro hw0 hn0 hz0 hk0 hl0
  have h16 : 16 ≤ o := mm_s_lt hY ho hc
  obtain ⟨h1, h2⟩ := kk hw0 hn0 hz0 (mm_ks_cons trivial (mm_ks_tail hk0)) hl0
  refine ⟨h1, fun ρ H locs ls hr hP hD hS hl => ?_⟩
  have he := mm_enc_at (cA := cA) (ρ := ρ) (Y := Y) h16 (mm_ks_head hk0)
  rw [mm_cell_obj ho] at he
  have hv : (mm_fs ρ Y M o ci)[k]? = some (mm_tr ρ (.int (M.2.2.2.1 o k))) := by
    rw [mm_fs_at (by rw [mm_size_of hc]; exact hk)]
    congr 1
    unfold mm_fv
    rcases ht with ht | ht <;> rw [ht] <;> rfl
  rcases hlink with hlink | ⟨host, hlink⟩
  · exact va_get hx hb hts hin hown hK hP (o - 16) he hc k hk hlink (fun _ h9 => h9) hv hd (h2 ρ H locs ls hr hP hD hS hl)
  · exact va_getN hx hb hts hin hown hK hP (o - 16) he hc k hk hlink (fun _ h9 => h9) hv hd (h2 ρ H locs ls hr hP hD hS hl)
theorem gh_getJ (hx : p.tables.exec = Jvm.exec) (hb : c.code = cc) (hY : mm_wfY Y) (hts : ∀ w ∈ Ts, w.before args s = true) (hown : s.vm.findClass own = some m.cls) (hK : va_K D mm_cl (mm_tysA cA) s) (hc : mm_cl[ci]? = some q) (hin : ∀ w ∈ u_ws q.1 q.2.1 q.2.2, w ∈ Ts) (hk : k < q.2.2) (hlink : (Cond.fieldLink own index (q.2.1 k).1 (q.2.1 k).2.1 (q.2.1 k).2.2.1).before args s = true ∨ ∃ host, (Cond.fieldLinkNest own index (q.2.1 k).1 (q.2.1 k).2.1 (q.2.1 k).2.2.1 host).before args s = true) (ho : mm_s Y M o = .inl ci) (ht : mm_tyOf ci k = .long) (hd : decode cc pc = .ok (.getfield index, 3)) (kk : mm_Gd p l e R s m args below meth c Q D cA Y A nL n0 z0 oc ρ0 Mf (pc + 3) L (.long (M.2.2.2.2.1 o k) :: r) M) : mm_Gd p l e R s m args below meth c Q D cA Y A nL n0 z0 oc ρ0 Mf pc L (.ref o :: r) M := by
  intro hw0 hn0 hz0 hk0 hl0
  have h16 : 16 ≤ o := mm_s_lt hY ho hc
  obtain ⟨h1, h2⟩ := kk hw0 hn0 hz0 (mm_ks_cons trivial (mm_ks_tail hk0)) hl0
  refine ⟨h1, fun ρ H locs ls hr hP hD hS hl => ?_⟩
  have he := mm_enc_at (cA := cA) (ρ := ρ) (Y := Y) h16 (mm_ks_head hk0)
  rw [mm_cell_obj ho] at he
  have hv : (mm_fs ρ Y M o ci)[k]? = some (mm_tr ρ (.long (M.2.2.2.2.1 o k))) := by
    rw [mm_fs_at (by rw [mm_size_of hc]; exact hk)]
    congr 1
    unfold mm_fv
    rw [ht]; rfl
  rcases hlink with hlink | ⟨host, hlink⟩
  · exact va_get hx hb hts hin hown hK hP (o - 16) he hc k hk hlink (fun _ h9 => h9) hv hd (h2 ρ H locs ls hr hP hD hS hl)
  · exact va_getN hx hb hts hin hown hK hP (o - 16) he hc k hk hlink (fun _ h9 => h9) hv hd (h2 ρ H locs ls hr hP hD hS hl)
theorem gh_getP (hx : p.tables.exec = Jvm.exec) (hb : c.code = cc) (hY : mm_wfY Y) (hts : ∀ w ∈ Ts, w.before args s = true) (hown : s.vm.findClass own = some m.cls) (hK : va_K D mm_cl (mm_tysA cA) s) (hc : mm_cl[ci]? = some q) (hin : ∀ w ∈ u_ws q.1 q.2.1 q.2.2, w ∈ Ts) (hk : k < q.2.2) (hlink : (Cond.fieldLink own index (q.2.1 k).1 (q.2.1 k).2.1 (q.2.1 k).2.2.1).before args s = true ∨ ∃ host, (Cond.fieldLinkNest own index (q.2.1 k).1 (q.2.1 k).2.1 (q.2.1 k).2.2.1 host).before args s = true) (ho : mm_s Y M o = .inl ci) (ht : mm_tk (mm_tyOf ci k) = 2) (hd : decode cc pc = .ok (.getfield index, 3)) (kk : mm_Gd p l e R s m args below meth c Q D cA Y A nL n0 z0 oc ρ0 Mf (pc + 3) L (mm_rv (mm_p Y M o k) :: r) M) : mm_Gd p l e R s m args below meth c Q D cA Y A nL n0 z0 oc ρ0 Mf pc L (.ref o :: r) M := by
  intro hw0 hn0 hz0 hk0 hl0
  have h16 : 16 ≤ o := mm_s_lt hY ho hc
  obtain ⟨h1, h2⟩ := kk hw0 hn0 hz0 (mm_ks_cons (mm_okv_rv fun b hb2 => hw0.2 o k b h16 (mm_ks_head hk0) hb2) (mm_ks_tail hk0)) hl0
  refine ⟨h1, fun ρ H locs ls hr hP hD hS hl => ?_⟩
  have he := mm_enc_at (cA := cA) (ρ := ρ) (Y := Y) h16 (mm_ks_head hk0)
  rw [mm_cell_obj ho] at he
  have hv : (mm_fs ρ Y M o ci)[k]? = some (mm_tr ρ (mm_rv (mm_p Y M o k))) := by
    rw [mm_fs_at (by rw [mm_size_of hc]; exact hk)]
    congr 1
    unfold mm_fv
    rw [mm_tr_rv]; cases h : mm_tyOf ci k <;> first | rfl | (rw [h] at ht; cases ht)
  rcases hlink with hlink | ⟨host, hlink⟩
  · exact va_get hx hb hts hin hown hK hP (o - 16) he hc k hk hlink (fun _ h9 => h9) hv hd (h2 ρ H locs ls hr hP hD hS hl)
  · exact va_getN hx hb hts hin hown hK hP (o - 16) he hc k hk hlink (fun _ h9 => h9) hv hd (h2 ρ H locs ls hr hP hD hS hl)
theorem gh_putI (hx : p.tables.exec = Jvm.exec) (hb : c.code = cc) (hY : mm_wfY Y) (hts : ∀ w ∈ Ts, w.before args s = true) (hown : s.vm.findClass own = some m.cls) (hK : va_K D mm_cl (mm_tysA cA) s) (hc : mm_cl[ci]? = some q) (hin : ∀ w ∈ u_ws q.1 q.2.1 q.2.2, w ∈ Ts) (hk : k < q.2.2) (hlink : (Cond.fieldLink own index (q.2.1 k).1 (q.2.1 k).2.1 (q.2.1 k).2.2.1).before args s = true ∨ ∃ host, (Cond.fieldLinkNest own index (q.2.1 k).1 (q.2.1 k).2.1 (q.2.1 k).2.2.1 host).before args s = true) (ho : mm_s Y M o = .inl ci) (hfin : (q.2.1 k).2.2.2 = false ∨ ((q.2.1 k).2.2.2 = true ∧ meth.name = "<init>" ∧ (q.2.1 k).1 = own ∧ (Cond.fieldLink own index (q.2.1 k).1 (q.2.1 k).2.1 (q.2.1 k).2.2.1).before args s = true)) {x : Int32} (ht : mm_tyOf ci k = .int) (hd : decode cc pc = .ok (.putfield index, 3)) (kk : mm_Gd p l e R s m args below meth c Q D cA Y A nL n0 z0 oc ρ0 Mf (pc + 3) L r (mm_wI M o k x)) : mm_Gd p l e R s m args below meth c Q D cA Y A nL n0 z0 oc ρ0 Mf pc L (.int x :: .ref o :: r) M := by
  intro hw0 hn0 hz0 hk0 hl0
  have h16 : 16 ≤ o := mm_s_lt hY ho hc
  have hon : o < M.2.1 := mm_ks_head (mm_ks_tail hk0)
  have hw1 : mm_wf Y (mm_wI M o k x) := hw0
  obtain ⟨h1, h2⟩ := kk hw1 hn0 hz0 (mm_ks_tail (mm_ks_tail hk0)) hl0
  refine ⟨h1, fun ρ H locs ls hr hP hD hS hl => ?_⟩
  have he := mm_enc_at (cA := cA) (ρ := ρ) (Y := Y) h16 hon
  rw [mm_cell_obj ho] at he
  have hcell : mm_cell cA ρ Y (mm_wI M o k x) o = .inr (ci, (mm_fs ρ Y M o ci).set k (.int x)) := by
    rw [mm_cell_obj (M := (mm_wI M o k x)) (ci := ci) ho]
    congr 2
    exact mm_fs_set (by rw [ht]; exact congrArg Value.int (mm_up_same _ _ _ _)) (by intro j hj t; unfold mm_fv; cases t <;> first | rfl | exact congrArg Value.int (mm_up_nk _ _ _ hj))
  have hset := mm_enc_set (cA := cA) (ρ := ρ) (Y := Y) (M := M) (M' := (mm_wI M o k x)) h16 hon rfl hcell (fun b _ _ hb3 => mm_cell_wI hb3)
  obtain ⟨hsz, hty, hnm⟩ := mm_cl_ok ci q hc
  have hd0 := hty k hk
  rw [ht] at hd0
  rcases hfin with hfin | ⟨hfin, hnam, hdec, hlk⟩
  · rcases hlink with hlink | ⟨host, hlink⟩
    · exact va_put hx hb hts hin (mm_tyOf ci) hty hnm hown hK hP hD hS (o - 16) he hc k hk hlink (fun _ h9 => h9) hfin hd0 rfl rfl (by rw [mm_fs_len, mm_size_of hc]; exact hk) hd (fun H1 locs1 hP1 hD1 hS1 => h2 ρ H1 locs1 ls hr (by rw [← hset]; exact hP1) (by rw [← hset]; exact hD1) hS1 hl)
    · exact va_putN hx hb hts hin (mm_tyOf ci) hty hnm hown hK hP hD hS (o - 16) he hc k hk hlink (fun _ h9 => h9) hfin hd0 rfl rfl (by rw [mm_fs_len, mm_size_of hc]; exact hk) hd (fun H1 locs1 hP1 hD1 hS1 => h2 ρ H1 locs1 ls hr (by rw [← hset]; exact hP1) (by rw [← hset]; exact hD1) hS1 hl)
  · exact va_putF hx hb hts hin (mm_tyOf ci) hty hnm hown hK hP hD hS (o - 16) he hc k hk hlk (fun _ h9 => h9) hfin hnam hdec hd0 rfl rfl (by rw [mm_fs_len, mm_size_of hc]; exact hk) hd (fun H1 locs1 hP1 hD1 hS1 => h2 ρ H1 locs1 ls hr (by rw [← hset]; exact hP1) (by rw [← hset]; exact hD1) hS1 hl)
theorem gh_putZ (hx : p.tables.exec = Jvm.exec) (hb : c.code = cc) (hY : mm_wfY Y) (hts : ∀ w ∈ Ts, w.before args s = true) (hown : s.vm.findClass own = some m.cls) (hK : va_K D mm_cl (mm_tysA cA) s) (hc : mm_cl[ci]? = some q) (hin : ∀ w ∈ u_ws q.1 q.2.1 q.2.2, w ∈ Ts) (hk : k < q.2.2) (hlink : (Cond.fieldLink own index (q.2.1 k).1 (q.2.1 k).2.1 (q.2.1 k).2.2.1).before args s = true ∨ ∃ host, (Cond.fieldLinkNest own index (q.2.1 k).1 (q.2.1 k).2.1 (q.2.1 k).2.2.1 host).before args s = true) (ho : mm_s Y M o = .inl ci) (hfin : (q.2.1 k).2.2.2 = false ∨ ((q.2.1 k).2.2.2 = true ∧ meth.name = "<init>" ∧ (q.2.1 k).1 = own ∧ (Cond.fieldLink own index (q.2.1 k).1 (q.2.1 k).2.1 (q.2.1 k).2.2.1).before args s = true)) {x : Int32} (ht : mm_tyOf ci k = .boolean) (hx01 : x = 0 ∨ x = 1) (hd : decode cc pc = .ok (.putfield index, 3)) (kk : mm_Gd p l e R s m args below meth c Q D cA Y A nL n0 z0 oc ρ0 Mf (pc + 3) L r (mm_wI M o k x)) : mm_Gd p l e R s m args below meth c Q D cA Y A nL n0 z0 oc ρ0 Mf pc L (.int x :: .ref o :: r) M := by
  intro hw0 hn0 hz0 hk0 hl0
  have h16 : 16 ≤ o := mm_s_lt hY ho hc
  have hon : o < M.2.1 := mm_ks_head (mm_ks_tail hk0)
  have hw1 : mm_wf Y (mm_wI M o k x) := hw0
  obtain ⟨h1, h2⟩ := kk hw1 hn0 hz0 (mm_ks_tail (mm_ks_tail hk0)) hl0
  refine ⟨h1, fun ρ H locs ls hr hP hD hS hl => ?_⟩
  have he := mm_enc_at (cA := cA) (ρ := ρ) (Y := Y) h16 hon
  rw [mm_cell_obj ho] at he
  have hcell : mm_cell cA ρ Y (mm_wI M o k x) o = .inr (ci, (mm_fs ρ Y M o ci).set k (.int x)) := by
    rw [mm_cell_obj (M := (mm_wI M o k x)) (ci := ci) ho]
    congr 2
    exact mm_fs_set (by rw [ht]; exact congrArg Value.int (mm_up_same _ _ _ _)) (by intro j hj t; unfold mm_fv; cases t <;> first | rfl | exact congrArg Value.int (mm_up_nk _ _ _ hj))
  have hset := mm_enc_set (cA := cA) (ρ := ρ) (Y := Y) (M := M) (M' := (mm_wI M o k x)) h16 hon rfl hcell (fun b _ _ hb3 => mm_cell_wI hb3)
  obtain ⟨hsz, hty, hnm⟩ := mm_cl_ok ci q hc
  have hd0 := hty k hk
  rw [ht] at hd0
  rcases hfin with hfin | ⟨hfin, hnam, hdec, hlk⟩
  · rcases hlink with hlink | ⟨host, hlink⟩
    · exact va_put hx hb hts hin (mm_tyOf ci) hty hnm hown hK hP hD hS (o - 16) he hc k hk hlink (fun _ h9 => h9) hfin hd0 (by rcases hx01 with rfl | rfl <;> rfl) (by rcases hx01 with rfl | rfl <;> rfl) (by rw [mm_fs_len, mm_size_of hc]; exact hk) hd (fun H1 locs1 hP1 hD1 hS1 => h2 ρ H1 locs1 ls hr (by rw [← hset]; exact hP1) (by rw [← hset]; exact hD1) hS1 hl)
    · exact va_putN hx hb hts hin (mm_tyOf ci) hty hnm hown hK hP hD hS (o - 16) he hc k hk hlink (fun _ h9 => h9) hfin hd0 (by rcases hx01 with rfl | rfl <;> rfl) (by rcases hx01 with rfl | rfl <;> rfl) (by rw [mm_fs_len, mm_size_of hc]; exact hk) hd (fun H1 locs1 hP1 hD1 hS1 => h2 ρ H1 locs1 ls hr (by rw [← hset]; exact hP1) (by rw [← hset]; exact hD1) hS1 hl)
  · exact va_putF hx hb hts hin (mm_tyOf ci) hty hnm hown hK hP hD hS (o - 16) he hc k hk hlk (fun _ h9 => h9) hfin hnam hdec hd0 (by rcases hx01 with rfl | rfl <;> rfl) (by rcases hx01 with rfl | rfl <;> rfl) (by rw [mm_fs_len, mm_size_of hc]; exact hk) hd (fun H1 locs1 hP1 hD1 hS1 => h2 ρ H1 locs1 ls hr (by rw [← hset]; exact hP1) (by rw [← hset]; exact hD1) hS1 hl)
theorem gh_putJ (hx : p.tables.exec = Jvm.exec) (hb : c.code = cc) (hY : mm_wfY Y) (hts : ∀ w ∈ Ts, w.before args s = true) (hown : s.vm.findClass own = some m.cls) (hK : va_K D mm_cl (mm_tysA cA) s) (hc : mm_cl[ci]? = some q) (hin : ∀ w ∈ u_ws q.1 q.2.1 q.2.2, w ∈ Ts) (hk : k < q.2.2) (hlink : (Cond.fieldLink own index (q.2.1 k).1 (q.2.1 k).2.1 (q.2.1 k).2.2.1).before args s = true ∨ ∃ host, (Cond.fieldLinkNest own index (q.2.1 k).1 (q.2.1 k).2.1 (q.2.1 k).2.2.1 host).before args s = true) (ho : mm_s Y M o = .inl ci) (hfin : (q.2.1 k).2.2.2 = false ∨ ((q.2.1 k).2.2.2 = true ∧ meth.name = "<init>" ∧ (q.2.1 k).1 = own ∧ (Cond.fieldLink own index (q.2.1 k).1 (q.2.1 k).2.1 (q.2.1 k).2.2.1).before args s = true)) {x : Int64} (ht : mm_tyOf ci k = .long) (hd : decode cc pc = .ok (.putfield index, 3)) (kk : mm_Gd p l e R s m args below meth c Q D cA Y A nL n0 z0 oc ρ0 Mf (pc + 3) L r (mm_wJ M o k x)) : mm_Gd p l e R s m args below meth c Q D cA Y A nL n0 z0 oc ρ0 Mf pc L (.long x :: .ref o :: r) M := by
  intro hw0 hn0 hz0 hk0 hl0
  have h16 : 16 ≤ o := mm_s_lt hY ho hc
  have hon : o < M.2.1 := mm_ks_head (mm_ks_tail hk0)
  have hw1 : mm_wf Y (mm_wJ M o k x) := hw0
  obtain ⟨h1, h2⟩ := kk hw1 hn0 hz0 (mm_ks_tail (mm_ks_tail hk0)) hl0
  refine ⟨h1, fun ρ H locs ls hr hP hD hS hl => ?_⟩
  have he := mm_enc_at (cA := cA) (ρ := ρ) (Y := Y) h16 hon
  rw [mm_cell_obj ho] at he
  have hcell : mm_cell cA ρ Y (mm_wJ M o k x) o = .inr (ci, (mm_fs ρ Y M o ci).set k (.long x)) := by
    rw [mm_cell_obj (M := (mm_wJ M o k x)) (ci := ci) ho]
    congr 2
    exact mm_fs_set (by rw [ht]; exact congrArg Value.long (mm_up_same _ _ _ _)) (by intro j hj t; unfold mm_fv; cases t <;> first | rfl | exact congrArg Value.long (mm_up_nk _ _ _ hj))
  have hset := mm_enc_set (cA := cA) (ρ := ρ) (Y := Y) (M := M) (M' := (mm_wJ M o k x)) h16 hon rfl hcell (fun b _ _ hb3 => mm_cell_wJ hb3)
  obtain ⟨hsz, hty, hnm⟩ := mm_cl_ok ci q hc
  have hd0 := hty k hk
  rw [ht] at hd0
  rcases hfin with hfin | ⟨hfin, hnam, hdec, hlk⟩
  · rcases hlink with hlink | ⟨host, hlink⟩
    · exact va_put hx hb hts hin (mm_tyOf ci) hty hnm hown hK hP hD hS (o - 16) he hc k hk hlink (fun _ h9 => h9) hfin hd0 rfl rfl (by rw [mm_fs_len, mm_size_of hc]; exact hk) hd (fun H1 locs1 hP1 hD1 hS1 => h2 ρ H1 locs1 ls hr (by rw [← hset]; exact hP1) (by rw [← hset]; exact hD1) hS1 hl)
    · exact va_putN hx hb hts hin (mm_tyOf ci) hty hnm hown hK hP hD hS (o - 16) he hc k hk hlink (fun _ h9 => h9) hfin hd0 rfl rfl (by rw [mm_fs_len, mm_size_of hc]; exact hk) hd (fun H1 locs1 hP1 hD1 hS1 => h2 ρ H1 locs1 ls hr (by rw [← hset]; exact hP1) (by rw [← hset]; exact hD1) hS1 hl)
  · exact va_putF hx hb hts hin (mm_tyOf ci) hty hnm hown hK hP hD hS (o - 16) he hc k hk hlk (fun _ h9 => h9) hfin hnam hdec hd0 rfl rfl (by rw [mm_fs_len, mm_size_of hc]; exact hk) hd (fun H1 locs1 hP1 hD1 hS1 => h2 ρ H1 locs1 ls hr (by rw [← hset]; exact hP1) (by rw [← hset]; exact hD1) hS1 hl)
theorem gh_putP (hx : p.tables.exec = Jvm.exec) (hb : c.code = cc) (hY : mm_wfY Y) (hts : ∀ w ∈ Ts, w.before args s = true) (hown : s.vm.findClass own = some m.cls) (hK : va_K D mm_cl (mm_tysA cA) s) (hc : mm_cl[ci]? = some q) (hin : ∀ w ∈ u_ws q.1 q.2.1 q.2.2, w ∈ Ts) (hk : k < q.2.2) (hlink : (Cond.fieldLink own index (q.2.1 k).1 (q.2.1 k).2.1 (q.2.1 k).2.2.1).before args s = true ∨ ∃ host, (Cond.fieldLinkNest own index (q.2.1 k).1 (q.2.1 k).2.1 (q.2.1 k).2.2.1 host).before args s = true) (ho : mm_s Y M o = .inl ci) (hfin : (q.2.1 k).2.2.2 = false ∨ ((q.2.1 k).2.2.2 = true ∧ meth.name = "<init>" ∧ (q.2.1 k).1 = own ∧ (Cond.fieldLink own index (q.2.1 k).1 (q.2.1 k).2.1 (q.2.1 k).2.2.1).before args s = true)) {x : Nat} (ht : mm_tk (mm_tyOf ci k) = 2) (hfr : mm_free Y o k = true) (hd : decode cc pc = .ok (.putfield index, 3)) (kk : mm_Gd p l e R s m args below meth c Q D cA Y A nL n0 z0 oc ρ0 Mf (pc + 3) L r (mm_wP M o k (some x))) : mm_Gd p l e R s m args below meth c Q D cA Y A nL n0 z0 oc ρ0 Mf pc L (.ref x :: .ref o :: r) M := by
  intro hw0 hn0 hz0 hk0 hl0
  have h16 : 16 ≤ o := mm_s_lt hY ho hc
  have hon : o < M.2.1 := mm_ks_head (mm_ks_tail hk0)
  have hw1 : mm_wf Y (mm_wP M o k (some x)) := by
    refine ⟨hw0.1, fun a j b ha1 ha2 hb2 => ?_⟩
    by_cases e : a = o
    · subst e
      by_cases e2 : j = k
      · subst e2
        rw [mm_p_wP_same hfr] at hb2
        cases hb2
        exact mm_ks_head hk0
      · rw [mm_p_wP_nk e2] at hb2
        exact hw0.2 a j b ha1 ha2 hb2
    · rw [mm_p_wP e] at hb2
      exact hw0.2 a j b ha1 ha2 hb2
  obtain ⟨h1, h2⟩ := kk hw1 hn0 hz0 (mm_ks_tail (mm_ks_tail hk0)) hl0
  refine ⟨h1, fun ρ H locs ls hr hP hD hS hl => ?_⟩
  have he := mm_enc_at (cA := cA) (ρ := ρ) (Y := Y) h16 hon
  rw [mm_cell_obj ho] at he
  have hcell : mm_cell cA ρ Y (mm_wP M o k (some x)) o = .inr (ci, (mm_fs ρ Y M o ci).set k (.ref (ρ x))) := by
    rw [mm_cell_obj (M := (mm_wP M o k (some x))) (ci := ci) ho]
    congr 2
    exact mm_fs_set (by
    unfold mm_fv
    rw [mm_p_wP_same hfr]
    cases h : mm_tyOf ci k <;> first | rfl | (rw [h] at ht; cases ht)) (by intro j hj t; unfold mm_fv; rw [mm_p_wP_nk hj])
  have hset := mm_enc_set (cA := cA) (ρ := ρ) (Y := Y) (M := M) (M' := (mm_wP M o k (some x))) h16 hon rfl hcell (fun b _ _ hb3 => mm_cell_wP hb3)
  obtain ⟨hsz, hty, hnm⟩ := mm_cl_ok ci q hc
  have hd0 := hty k hk
  obtain ⟨ty, hty0⟩ : ∃ ty, mm_tyOf ci k = ty := ⟨_, rfl⟩
  rw [hty0] at hd0 ht
  have hnar : narrow ty (.ref (ρ x)) = .ref (ρ x) := by cases ty <;> first | rfl | cases ht
  have hfit : fits ty (.ref (ρ x)) = true := by cases ty <;> first | rfl | cases ht
  rcases hfin with hfin | ⟨hfin, hnam, hdec, hlk⟩
  · rcases hlink with hlink | ⟨host, hlink⟩
    · exact va_put hx hb hts hin (mm_tyOf ci) hty hnm hown hK hP hD hS (o - 16) he hc k hk hlink (fun _ h9 => h9) hfin hd0 hnar hfit (by rw [mm_fs_len, mm_size_of hc]; exact hk) hd (fun H1 locs1 hP1 hD1 hS1 => h2 ρ H1 locs1 ls hr (by rw [← hset]; exact hP1) (by rw [← hset]; exact hD1) hS1 hl)
    · exact va_putN hx hb hts hin (mm_tyOf ci) hty hnm hown hK hP hD hS (o - 16) he hc k hk hlink (fun _ h9 => h9) hfin hd0 hnar hfit (by rw [mm_fs_len, mm_size_of hc]; exact hk) hd (fun H1 locs1 hP1 hD1 hS1 => h2 ρ H1 locs1 ls hr (by rw [← hset]; exact hP1) (by rw [← hset]; exact hD1) hS1 hl)
  · exact va_putF hx hb hts hin (mm_tyOf ci) hty hnm hown hK hP hD hS (o - 16) he hc k hk hlk (fun _ h9 => h9) hfin hnam hdec hd0 hnar hfit (by rw [mm_fs_len, mm_size_of hc]; exact hk) hd (fun H1 locs1 hP1 hD1 hS1 => h2 ρ H1 locs1 ls hr (by rw [← hset]; exact hP1) (by rw [← hset]; exact hD1) hS1 hl)
end GH
