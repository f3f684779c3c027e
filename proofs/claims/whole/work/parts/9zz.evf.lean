/-! methods of Math too: no row of the table of natives is theirs -/
theorem mv_ofF {l : Launch} {y : MethodName} {ws ws' : List Cond} {rm : Room} {Pc : Array Value → State → Prop} {Qc : Array Value → State → Outcome → State → Prop} {mc ms : Nat} {free : Addr → Prop} {cc : ByteArray} {maxL : Nat} {ret : Option FieldType}
    (hy : plainFor y = true) (hw : ws = Cond.code y cc maxL ret :: ws')
    (body : ∀ p e s m args below meth c s₁, BodyLoose p l y (headSpec ws rm) cc maxL ret e s m args below meth c s₁ → c.maxLocals = maxL → Pc args s →
      W p l e (headSpec ws rm).room s m args below meth c s.heap [] 0 0 (MQ below Qc args s mc ms free) (entryFrame m args maxL)) : Met l y ws rm Pc Qc mc ms free := by
  refine MetFree.of_bodySF (code := cc) (maxLocals := maxL) (ret := ret) hy ?_ ?_
  · intro args s m h hn
    obtain ⟨meth, c, h1, h2, h3, h4, h5, h6, -, -⟩ := Cond.code_spec hn (atoms_spec (ws := ws) h _ (by rw [hw]; exact List.mem_cons_self))
    exact ⟨meth, c, h1, h2, h3, h4, h5, h6⟩
  · intro p e s m args below meth c s₁ B hml hP _
    have hh0 : s₁.heap = s.heap := by rw [B.state]; rfl
    obtain ⟨t, a1, o, b1, b2, b3⟩ := body p e s m args below meth c s₁ B hml hP s₁ hh0 (Stand.of_body B)
    exact ⟨t, o, a1, b1, b2, ⟨b3.1, b3.2⟩⟩
def mm_okF (mth : List mmT) (nest : List Cond) (prog : List mmP) : Prop := ∀ (i : Nat) (q : mmP), prog[i]? = some q → ∃ y, mth[i]? = some y ∧ plainFor y.1 = true ∧ q.2.2 = y.2.2.1 ∧ (∃ e r, q.1 = e :: r ∧ e.1 = 0) ∧ ∀ e ∈ q.1, mm_okE mth nest y e
theorem mv_runF {l : Launch} {D : va_G} {cA : Nat → ClassId} {Y : mmY} {nest : List Cond} {mth : List mmT} {prog : List mmP} {N d : Nat} {call : mmC} (hY : mm_wfY Y) (hnest : ∀ w ∈ nest, mm_isN w = true) (hlay : ∀ (ci : Nat) (q : vw_C), mm_cl[ci]? = some q → ∀ w ∈ u_ws q.1 q.2.1 q.2.2, w ∈ mm_gw) (hcode : ∀ (j : Nat) (y : mmT), mth[j]? = some y → Cond.code y.1 y.2.1 y.2.2.1 y.2.2.2 ∈ mm_gw ∧ y.2.2.1 ≤ 41) (hprog : mm_okF mth nest prog)
    (hcall : ∀ (j : Nat) (as : List Value) (M : mmM) (v : Option Value) (M' : mmM), call j as M = some (v, M') → mm_wf Y M → 16 ≤ M.2.1 → mm_ks M.2.1 as → mm_Call l D cA Y nest mth d j as M v M') {i : Nat} {as : List Value} {M M' : mmM} {v : Option Value} (h : mm_run Y prog N call i as M = some (v, M')) (hw : mm_wf Y M) (h16 : 16 ≤ M.2.1) (hks : mm_ks M.2.1 as) : mm_Call l D cA Y nest mth (d + 1) i as M v M' := by
  unfold mm_run at h
  cases hq : prog[i]? with
  | none => rw [hq] at h; cases h
  | some q =>
    rw [hq] at h
    simp only at h
    obtain ⟨hcat, h⟩ := mi_cond h
    have hcat := Nat.le_of_ble_eq_true hcat
    obtain ⟨y, hy, hpl, hnl, ⟨e0, r0, he0, hpc0⟩, hes⟩ := hprog i q hq
    have hpu : mm_Pu Y (v, M') (mm_ent q.2.2 as) [] M := mxp_ex hY (fun j a2 m2 v2 m3 h2 h3 h4 h5 => (hcall j a2 m2 v2 m3 h2 h3 h4 h5).1) (mxp_lp hY (fun j a2 m2 v2 m3 h2 h3 h4 h5 => (hcall j a2 m2 v2 m3 h2 h3 h4 h5).1) hes N) 1200 q.1 hes _ _ _ h
    obtain ⟨p1, p2, p3, p4⟩ := hpu hw h16 (fun x hx => by cases hx) (mm_ent_lk hks)
    refine ⟨⟨p1, p2, p3, p4⟩, fun y2 hy2 ρ sz => ?_⟩
    have e2 : y2 = y := Option.some.inj (hy2.symm.trans hy)
    subst e2
    refine mv_ofF (cc := y2.2.1) (maxL := y2.2.2.1) (ret := y2.2.2.2) hpl rfl ?_
    intro p e s m args below meth c s₁ B hml hv
    obtain ⟨rfl, hsz, hP, hK, hD0, hT, hZ, hN, hO, h5⟩ := hv
    have hts := atoms_spec (ws := mm_ww y2) B.pre
    subst hsz
    have hD := hD0.self (sz := s.heap.size)
    have hl := lv_entry (as.map (mm_tr ρ)) (n := y2.2.2.1) (by rw [mm_sl_len, ← hnl]; exact hcat)
    rw [lg_entry_eq]
    generalize (lg_sl (as.map (mm_tr ρ)) ++ List.replicate (y2.2.2.1 - (lg_sl (as.map (mm_tr ρ))).length) Slot.unset).toArray = ls at hl ⊢
    have hlc : mm_lc ρ M.2.1 (mm_ent q.2.2 as) ls y2.2.2.1 := by
      refine ⟨hl.1, hl.2.1, by rw [mm_ent_len hcat, hnl]; exact Nat.le_refl _, fun j x hx => ?_⟩
      obtain ⟨a1, a2⟩ := mm_fl_at (ρ := ρ) 0 as j x (mm_ent_at hx)
      rw [Nat.zero_add] at a1
      exact ⟨hl.2.2 _ a1, hks x a2⟩
    have hgd := mx_ex (oc := 0) (res := (v, M')) (M0 := M) (R := mm_rm (d + 1) (M'.2.1 - M.2.1) (M'.2.2.1 - M.2.2.1)) (z0 := M.2.2.1) (Ts := mm_ww y2) (own := y2.1.cls) (nm := y2.1.name) (rt := y2.2.2.2) (A := va_A (mm_enc cA ρ Y M) s.heap.size) (ρ0 := ρ) (e := e) (below := below) B.exec B.bytes hml (findClass_of_methodNamed B.named) B.notSynchronized B.returns (fun hnm => by rw [(name_of_methodNamed B.named B.method).1]; exact hnm) (fun w hw9 => List.mem_cons_of_mem _ hw9) hts hY hK hnest h16 rfl rfl (fun q9 hq9 => Or.inr hq9) hT hZ hN hO h5 hlay hcode (Nat.le_refl _) (Nat.le_refl _) (Nat.le_refl _) (Nat.le_refl _) hcall true (fun _ => rfl)
      (mx_lp (oc := 0) (res := (v, M')) (M0 := M) (R := mm_rm (d + 1) (M'.2.1 - M.2.1) (M'.2.2.1 - M.2.2.1)) (z0 := M.2.2.1) (Ts := mm_ww y2) (own := y2.1.cls) (nm := y2.1.name) (rt := y2.2.2.2) (A := va_A (mm_enc cA ρ Y M) s.heap.size) (ρ0 := ρ) (e := e) (below := below) B.exec B.bytes hml (findClass_of_methodNamed B.named) B.notSynchronized B.returns (fun hnm => by rw [(name_of_methodNamed B.named B.method).1]; exact hnm) (fun w hw9 => List.mem_cons_of_mem _ hw9) hts hY hK hnest h16 rfl rfl (fun q9 hq9 => Or.inr hq9) hT hZ hN hO h5 hlay hcode (Nat.le_refl _) (Nat.le_refl _) (Nat.le_refl _) (Nat.le_refl _) hcall true (fun _ => rfl) (fun e9 he9 => ⟨mm_okE_ren (hes e9 he9), fun _ => rfl⟩) N) 1200 e0 r0 (fun e9 he9 => ⟨mm_okE_ren (hes e9 (by rw [he0]; exact he9)), fun _ => rfl⟩) (mm_ent q.2.2 as) [] M (by rw [← he0]; exact h)
    have hfin := (hgd hw (Nat.le_refl _) (Nat.le_refl _) (fun x hx => by cases hx) (mm_ent_lk hks)).2 ρ s.heap [] ls (fun _ _ => rfl) hP hD va_S.rf hlc
    have e00 : M.2.1 + 0 - M.2.1 = 0 := by omega
    rw [e00, Nat.sub_self, hpc0] at hfin
    exact hfin
/-- WHAT THE SMALL MACHINE EVALUATES, THE REAL ONE RUNS -/
theorem mv_evF {l : Launch} {D : va_G} {cA : Nat → ClassId} {Y : mmY} {nest : List Cond} {mth : List mmT} {prog : List mmP} {N : Nat} (hY : mm_wfY Y) (hnest : ∀ w ∈ nest, mm_isN w = true) (hlay : ∀ (ci : Nat) (q : vw_C), mm_cl[ci]? = some q → ∀ w ∈ u_ws q.1 q.2.1 q.2.2, w ∈ mm_gw) (hcode : ∀ (j : Nat) (y : mmT), mth[j]? = some y → Cond.code y.1 y.2.1 y.2.2.1 y.2.2.2 ∈ mm_gw ∧ y.2.2.1 ≤ 41) (hprog : mm_okF mth nest prog) : ∀ (d i : Nat) (as : List Value) (M : mmM) (v : Option Value) (M' : mmM), mm_ev Y prog N d i as M = some (v, M') → mm_wf Y M → 16 ≤ M.2.1 → mm_ks M.2.1 as → mm_Call l D cA Y nest mth d i as M v M' := by
  intro d
  induction d with
  | zero => intro i as M v M' h; cases h
  | succ d ih => intro i as M v M' h hw h16 hks; exact mv_runF hY hnest hlay hcode hprog ih h hw h16 hks

