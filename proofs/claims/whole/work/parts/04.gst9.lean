theorem mm_tk0 {t : FieldType} (h : mm_tk t = 0) : t = .int := by cases t <;> first | rfl | cases h
theorem mm_tk1 {t : FieldType} (h : mm_tk t = 1) : t = .long := by cases t <;> first | rfl | cases h
theorem mm_tk3 {t : FieldType} (h : mm_tk t = 3) : t = .boolean := by cases t <;> first | rfl | cases h

section SM
variable {p : Program} {l : Launch} {e : Env} {R : Room} {s : State} {m : MethodId} {args : Array Value} {below : List Frame} {meth : Method} {c : Code} {D : va_G} {cA : Nat → ClassId} {Y : mmY} {A : Nat → Prop} {nL n0 z0 oc : Nat} {ρ0 : Nat → Nat} {cc : ByteArray} {pc : Nat} {L : mmL} {M : mmM}
variable {own nm : String} {rt : Option FieldType} {Ts nest : List Cond} {mth : List mmT} {d : Nat} {M0 : mmM} {Q : State → Prop} {res : mmR} {call : mmC}
set_option maxHeartbeats 4000000 in
theorem sm_callV (hx : p.tables.exec = Jvm.exec) (hb : c.code = cc) (hml : c.maxLocals = nL) (hown : s.vm.findClass own = some m.cls) (hlocks : meth.locks = false) (hrt : meth.sig.returnType = rt) (hnm : nm = "<init>" → meth.name = "<init>") (hTs : ∀ w ∈ mm_gw, w ∈ Ts) (hts : ∀ w ∈ Ts, w.before args s = true) (hY : mm_wfY Y) (hK : va_K D mm_cl (mm_tysA cA) s) (hnest : ∀ w ∈ nest, mm_isN w = true) (h16n : 16 ≤ n0) (hA0 : A = va_A (mm_enc cA ρ0 Y M0) s.heap.size) (hM0 : M0.2.1 = n0) (hA : ∀ q, s.heap.size ≤ q → A q) (hT : mm_cnT Y ρ0 A s s.heap) (hZ : mm_cnZ ρ0 A s s.heap) (hN : mm_cnN nest s) (hO : va_AO RX0 s) (h5 : mm_c5 cA s) (hlay : ∀ (ci : Nat) (q : vw_C), mm_cl[ci]? = some q → ∀ w ∈ u_ws q.1 q.2.1 q.2.2, w ∈ mm_gw) (hcode : ∀ (j : Nat) (y : mmT), mth[j]? = some y → Cond.code y.1 y.2.1 y.2.2.1 y.2.2.2 ∈ mm_gw ∧ y.2.2.1 ≤ 41) (hRc : res.2.2.1 + oc - n0 ≤ R.cells) (hRs : res.2.2.2.1 - z0 ≤ R.slots) (hRf : d + 1 ≤ R.frames) (hRl : 60 * (d + 1) + 200 ≤ R.locals) (hcall : ∀ (j : Nat) (as : List Value) (M : mmM) (v : Option Value) (M' : mmM), call j as M = some (v, M') → mm_wf Y M → 16 ≤ M.2.1 → mm_ks M.2.1 as → mm_Call l D cA Y nest mth d j as M v M') {idx a b : Nat} {as rest : List Value} {o ci : Nat} {q : vw_C} {y : mmT} {v : Option Value} {M' : mmM} (hy : mth[a]? = some y) (hc : mm_cl[ci]? = some q) (ho : mm_s Y M o = .inl ci) (hcls : y.1.cls = q.1) (hpl : mm_plain y.1 b = true) (hcat : mm_cat rest ≤ 8) (hlen : as.length = b) (hev : call a (.ref o :: as) M = some (v, M'))
    (hlk : (∀ w ∈ [Cond.methodLink own idx y.1, Cond.instanceMethod y.1, Cond.selects y.1.cls y.1 y.1, Cond.initialized y.1.cls], w ∈ mm_gw) ∨ ((∀ w ∈ [Cond.initialized y.1.cls, Cond.instanceMethod y.1, Cond.selects y.1.cls y.1 y.1], w ∈ mm_gw) ∧ Cond.methodLinkNest own idx y.1 mm_host ∈ nest)) (hd : decode cc pc = .ok (.invokevirtual idx, 3)) (kk : mm_Gd p l e R s m args below meth c Q D cA Y A nL n0 z0 oc ρ0 res.2 (pc + 3) L (v.toList ++ rest) M') : mm_Gd p l e R s m args below meth c Q D cA Y A nL n0 z0 oc ρ0 res.2 pc L (as.reverse ++ .ref o :: rest) M := by
  intro hw0 hn0 hz0 hk0 hl0
  have hk9 : mm_ks M.2.1 (.ref o :: as) := fun x hx1 => by
    rcases List.mem_cons.mp hx1 with rfl | hx1
    · exact hk0 _ (List.mem_append_right _ List.mem_cons_self)
    · exact hk0 _ (List.mem_append_left _ (List.mem_reverse.mpr hx1))
  obtain ⟨⟨c1, c2, c3, c4⟩, c5⟩ := hcall a _ M v M' hev hw0 (by omega) hk9
  have hpl := of_decide_eq_true hpl
  have hww := mm_ww_in (hcode a y hy).1
  have hmx := (hcode a y hy).2
  rcases hlk with hlk | ⟨hlk, hnl⟩
  · exact gq_V hx hb hnest h16n hA hK hT hZ hN hO h5 hRc hRs c2 c3 c1 c4 hml hown hts (c5 y hy) rfl rfl rfl ⟨hRf, by show 8 + (y.2.2.1 + 11) + (60 * d + 200) ≤ R.locals; omega⟩ hcat (mm_gw_in hTs (fun w hw => by
      rcases List.mem_append.mp hw with hw | hw
      · exact hlk w hw
      · exact hww w hw)) ⟨rfl, hpl⟩ hc hcls.symm ho hY hlen hd kk hw0 hn0 hz0 hk0 hl0
  · exact gq_VN hx hb hnest h16n hA hK hT hZ hN hO h5 hRc hRs c2 c3 c1 c4 hml hown hts (c5 y hy) rfl rfl rfl ⟨hRf, by show 8 + (y.2.2.1 + 11) + (60 * d + 200) ≤ R.locals; omega⟩ hcat (mm_gw_in hTs hww) (hN _ hnl) (hts _ (hTs _ (hlk _ (by simp)))) (hts _ (hTs _ (hlk _ (by simp)))) (hts _ (hTs _ (hlk _ (by simp)))) hpl hc hcls.symm ho hY hlen hd kk hw0 hn0 hz0 hk0 hl0
set_option maxHeartbeats 4000000 in
theorem sm_callS (hx : p.tables.exec = Jvm.exec) (hb : c.code = cc) (hml : c.maxLocals = nL) (hown : s.vm.findClass own = some m.cls) (hlocks : meth.locks = false) (hrt : meth.sig.returnType = rt) (hnm : nm = "<init>" → meth.name = "<init>") (hTs : ∀ w ∈ mm_gw, w ∈ Ts) (hts : ∀ w ∈ Ts, w.before args s = true) (hY : mm_wfY Y) (hK : va_K D mm_cl (mm_tysA cA) s) (hnest : ∀ w ∈ nest, mm_isN w = true) (h16n : 16 ≤ n0) (hA0 : A = va_A (mm_enc cA ρ0 Y M0) s.heap.size) (hM0 : M0.2.1 = n0) (hA : ∀ q, s.heap.size ≤ q → A q) (hT : mm_cnT Y ρ0 A s s.heap) (hZ : mm_cnZ ρ0 A s s.heap) (hN : mm_cnN nest s) (hO : va_AO RX0 s) (h5 : mm_c5 cA s) (hlay : ∀ (ci : Nat) (q : vw_C), mm_cl[ci]? = some q → ∀ w ∈ u_ws q.1 q.2.1 q.2.2, w ∈ mm_gw) (hcode : ∀ (j : Nat) (y : mmT), mth[j]? = some y → Cond.code y.1 y.2.1 y.2.2.1 y.2.2.2 ∈ mm_gw ∧ y.2.2.1 ≤ 41) (hRc : res.2.2.1 + oc - n0 ≤ R.cells) (hRs : res.2.2.2.1 - z0 ≤ R.slots) (hRf : d + 1 ≤ R.frames) (hRl : 60 * (d + 1) + 200 ≤ R.locals) (hcall : ∀ (j : Nat) (as : List Value) (M : mmM) (v : Option Value) (M' : mmM), call j as M = some (v, M') → mm_wf Y M → 16 ≤ M.2.1 → mm_ks M.2.1 as → mm_Call l D cA Y nest mth d j as M v M') {idx a b : Nat} {as rest : List Value} {y : mmT} {v : Option Value} {M' : mmM} (hy : mth[a]? = some y) (hpl : mm_plain y.1 b = true) (hcat : mm_cat rest ≤ 8) (hlen : as.length = b) (hev : call a as M = some (v, M'))
    (hlk : (∀ w ∈ [Cond.methodLink own idx y.1, Cond.static y.1, Cond.initialized y.1.cls], w ∈ mm_gw) ∨ ((∀ w ∈ [Cond.static y.1, Cond.initialized y.1.cls], w ∈ mm_gw) ∧ Cond.methodLinkNest own idx y.1 mm_host ∈ nest)) (hd : decode cc pc = .ok (.invokestatic idx, 3)) (kk : mm_Gd p l e R s m args below meth c Q D cA Y A nL n0 z0 oc ρ0 res.2 (pc + 3) L (v.toList ++ rest) M') : mm_Gd p l e R s m args below meth c Q D cA Y A nL n0 z0 oc ρ0 res.2 pc L (as.reverse ++ rest) M := by
  intro hw0 hn0 hz0 hk0 hl0
  have hk9 : mm_ks M.2.1 as := fun x hx1 => hk0 _ (List.mem_append_left _ (List.mem_reverse.mpr hx1))
  obtain ⟨⟨c1, c2, c3, c4⟩, c5⟩ := hcall a _ M v M' hev hw0 (by omega) hk9
  have hpl := of_decide_eq_true hpl
  have hww := mm_ww_in (hcode a y hy).1
  have hmx := (hcode a y hy).2
  rcases hlk with hlk | ⟨hlk, hnl⟩
  · exact gq_S (C := "") hx hb hnest h16n hA hK hT hZ hN hO h5 hRc hRs c2 c3 c1 c4 hml hown hts (c5 y hy) rfl rfl rfl ⟨hRf, by show 8 + (y.2.2.1 + 11) + (60 * d + 200) ≤ R.locals; omega⟩ hcat (mm_gw_in hTs (fun w hw => by
      rcases List.mem_append.mp hw with hw | hw
      · exact hlk w hw
      · exact hww w hw)) hpl hlen hd kk hw0 hn0 hz0 hk0 hl0
  · exact gq_SN (C := "") hx hb hnest h16n hA hK hT hZ hN hO h5 hRc hRs c2 c3 c1 c4 hml hown hts (c5 y hy) rfl rfl rfl ⟨hRf, by show 8 + (y.2.2.1 + 11) + (60 * d + 200) ≤ R.locals; omega⟩ hcat (mm_gw_in hTs hww) (hN _ hnl) (hts _ (hTs _ (hlk _ (by simp)))) (hts _ (hTs _ (hlk _ (by simp)))) hpl hlen hd kk hw0 hn0 hz0 hk0 hl0
set_option maxHeartbeats 4000000 in
theorem sm_callI (hx : p.tables.exec = Jvm.exec) (hb : c.code = cc) (hml : c.maxLocals = nL) (hown : s.vm.findClass own = some m.cls) (hlocks : meth.locks = false) (hrt : meth.sig.returnType = rt) (hnm : nm = "<init>" → meth.name = "<init>") (hTs : ∀ w ∈ mm_gw, w ∈ Ts) (hts : ∀ w ∈ Ts, w.before args s = true) (hY : mm_wfY Y) (hK : va_K D mm_cl (mm_tysA cA) s) (hnest : ∀ w ∈ nest, mm_isN w = true) (h16n : 16 ≤ n0) (hA0 : A = va_A (mm_enc cA ρ0 Y M0) s.heap.size) (hM0 : M0.2.1 = n0) (hA : ∀ q, s.heap.size ≤ q → A q) (hT : mm_cnT Y ρ0 A s s.heap) (hZ : mm_cnZ ρ0 A s s.heap) (hN : mm_cnN nest s) (hO : va_AO RX0 s) (h5 : mm_c5 cA s) (hlay : ∀ (ci : Nat) (q : vw_C), mm_cl[ci]? = some q → ∀ w ∈ u_ws q.1 q.2.1 q.2.2, w ∈ mm_gw) (hcode : ∀ (j : Nat) (y : mmT), mth[j]? = some y → Cond.code y.1 y.2.1 y.2.2.1 y.2.2.2 ∈ mm_gw ∧ y.2.2.1 ≤ 41) (hRc : res.2.2.1 + oc - n0 ≤ R.cells) (hRs : res.2.2.2.1 - z0 ≤ R.slots) (hRf : d + 1 ≤ R.frames) (hRl : 60 * (d + 1) + 200 ≤ R.locals) (hcall : ∀ (j : Nat) (as : List Value) (M : mmM) (v : Option Value) (M' : mmM), call j as M = some (v, M') → mm_wf Y M → 16 ≤ M.2.1 → mm_ks M.2.1 as → mm_Call l D cA Y nest mth d j as M v M') {idx a b : Nat} {as rest : List Value} {o : Nat} {y : mmT} {v : Option Value} {M' : mmM} (hy : mth[a]? = some y) (hpl : mm_plain y.1 b = true) (hin1 : y.1.name = "<init>") (hre : y.2.2.2 = none) (hcat : mm_cat rest ≤ 8) (hlen : as.length = b) (hev : call a (.ref o :: as) M = some (v, M'))
    (hlk : (∀ w ∈ [Cond.methodLink own idx y.1, Cond.instanceMethod y.1, Cond.initialized y.1.cls], w ∈ mm_gw) ∨ ((∀ w ∈ [Cond.instanceMethod y.1, Cond.initialized y.1.cls], w ∈ mm_gw) ∧ Cond.methodLinkNest own idx y.1 mm_host ∈ nest)) (hd : decode cc pc = .ok (.invokespecial idx, 3)) (kk : mm_Gd p l e R s m args below meth c Q D cA Y A nL n0 z0 oc ρ0 res.2 (pc + 3) L (v.toList ++ rest) M') : mm_Gd p l e R s m args below meth c Q D cA Y A nL n0 z0 oc ρ0 res.2 pc L (as.reverse ++ .ref o :: rest) M := by
  intro hw0 hn0 hz0 hk0 hl0
  have hk9 : mm_ks M.2.1 (.ref o :: as) := fun x hx1 => by
    rcases List.mem_cons.mp hx1 with rfl | hx1
    · exact hk0 _ (List.mem_append_right _ List.mem_cons_self)
    · exact hk0 _ (List.mem_append_left _ (List.mem_reverse.mpr hx1))
  obtain ⟨⟨c1, c2, c3, c4⟩, c5⟩ := hcall a _ M v M' hev hw0 (by omega) hk9
  have hpl := of_decide_eq_true hpl
  have hww := mm_ww_in (hcode a y hy).1
  have hmx := (hcode a y hy).2
  rcases hlk with hlk | ⟨hlk, hnl⟩
  · exact gq_I (C := "") (ci := 0) (q := (RX0, TX0, 11)) hx hb hnest h16n hA hK hT hZ hN hO h5 hRc hRs c2 c3 c1 c4 hml hown hts (c5 y hy) rfl rfl rfl ⟨hRf, by show 8 + (y.2.2.1 + 11) + (60 * d + 200) ≤ R.locals; omega⟩ hcat (mm_gw_in hTs hww) hre hin1 (hts _ (hTs _ (hlk _ (by simp)))) (hts _ (hTs _ (hlk _ (by simp)))) (hts _ (hTs _ (hlk _ (by simp)))) hpl hlen hd kk hw0 hn0 hz0 hk0 hl0
  · exact gq_IN (C := "") (ci := 0) (q := (RX0, TX0, 11)) hx hb hnest h16n hA hK hT hZ hN hO h5 hRc hRs c2 c3 c1 c4 hml hown hts (c5 y hy) rfl rfl rfl ⟨hRf, by show 8 + (y.2.2.1 + 11) + (60 * d + 200) ≤ R.locals; omega⟩ hcat (mm_gw_in hTs hww) hre hin1 (hN _ hnl) (hts _ (hTs _ (hlk _ (by simp)))) (hts _ (hTs _ (hlk _ (by simp)))) hpl hlen hd kk hw0 hn0 hz0 hk0 hl0

def mm_isRet (i : Instr) : Bool := match i with
  | .ireturn => true
  | .lreturn => true
  | .areturn => true
  | .return_ => true
  | _ => false
set_option maxHeartbeats 8000000 in
/-- one instruction: what the small machine does, the real one does -/
theorem mm_sem_ok (hx : p.tables.exec = Jvm.exec) (hb : c.code = cc) (hml : c.maxLocals = nL) (hown : s.vm.findClass own = some m.cls) (hlocks : meth.locks = false) (hrt : meth.sig.returnType = rt) (hnm : nm = "<init>" → meth.name = "<init>") (hTs : ∀ w ∈ mm_gw, w ∈ Ts) (hts : ∀ w ∈ Ts, w.before args s = true) (hY : mm_wfY Y) (hK : va_K D mm_cl (mm_tysA cA) s) (hnest : ∀ w ∈ nest, mm_isN w = true) (h16n : 16 ≤ n0) (hA0 : A = va_A (mm_enc cA ρ0 Y M0) s.heap.size) (hM0 : M0.2.1 = n0) (hA : ∀ q, s.heap.size ≤ q → A q) (hT : mm_cnT Y ρ0 A s s.heap) (hZ : mm_cnZ ρ0 A s s.heap) (hN : mm_cnN nest s) (hO : va_AO RX0 s) (h5 : mm_c5 cA s) (hlay : ∀ (ci : Nat) (q : vw_C), mm_cl[ci]? = some q → ∀ w ∈ u_ws q.1 q.2.1 q.2.2, w ∈ mm_gw) (hcode : ∀ (j : Nat) (y : mmT), mth[j]? = some y → Cond.code y.1 y.2.1 y.2.2.1 y.2.2.2 ∈ mm_gw ∧ y.2.2.1 ≤ 41) (hRc : res.2.2.1 + oc - n0 ≤ R.cells) (hRs : res.2.2.2.1 - z0 ≤ R.slots) (hRf : d + 1 ≤ R.frames) (hRl : 60 * (d + 1) + 200 ≤ R.locals) (hcall : ∀ (j : Nat) (as : List Value) (M : mmM) (v : Option Value) (M' : mmM), call j as M = some (v, M') → mm_wf Y M → 16 ≤ M.2.1 → mm_ks M.2.1 as → mm_Call l D cA Y nest mth d j as M v M') {i : Instr} {len a b c9 : Nat} {v : Value} {w : List (Int32 × Nat)} {K : List Value} {k : mmK} {g : mmG} (hQr : mm_isRet i = true → Q = (MQ below (mm_Qc D cA Y ρ0 M0 res.1 res.2 s.heap.size) args s (res.2.2.1 + oc - n0) (res.2.2.2.1 - z0) A)) (hd : decode cc pc = .ok (i, len)) (hok : mm_okI mth own nm rt nL pc i len a b c9 v w = true) (hws : ∀ z ∈ mm_wds mth own i a b c9 v, z ∈ mm_gw) (hns : ∀ z ∈ mm_nwd mth own i a b c9, z ∈ nest)
    (h : mm_sem Y call i a b c9 v w L K M k g = some res) (hk : ∀ (L' : mmL) (K' : List Value) (M' : mmM), k L' K' M' = some res → mm_Gd p l e R s m args below meth c Q D cA Y A nL n0 z0 oc ρ0 res.2 (pc + len) L' K' M') (hg : ∀ (t : Nat) (L' : mmL) (K' : List Value) (M' : mmM), g t L' K' M' = some res → mm_Gd p l e R s m args below meth c Q D cA Y A nL n0 z0 oc ρ0 res.2 t L' K' M') : mm_Gd p l e R s m args below meth c Q D cA Y A nL n0 z0 oc ρ0 res.2 pc L K M := by
  cases i with
  | iconst z =>
    obtain ⟨rfl, rfl⟩ := of_decide_eq_true hok
    exact gs_iconst hx hb rfl hd (hk _ _ _ h)
  | bipush z =>
    obtain ⟨rfl, rfl⟩ := of_decide_eq_true hok
    exact gs_bipush hx hb rfl hd (hk _ _ _ h)
  | sipush z =>
    obtain ⟨rfl, rfl⟩ := of_decide_eq_true hok
    exact gs_sipush hx hb rfl hd (hk _ _ _ h)
  | lconst z =>
    obtain ⟨rfl, rfl⟩ := of_decide_eq_true hok
    exact gs_lconst hx hb rfl hd (hk _ _ _ h)
  | ldc idx =>
    simp only [mm_okI, Bool.and_eq_true, decide_eq_true_eq] at hok
    obtain ⟨rfl, hv⟩ := hok
    cases v with
    | int x => exact gs_ldc hx hb hown (hts _ (hTs _ (hws _ List.mem_cons_self))) hd (hk _ _ _ h)
    | _ => cases hv
  | ldc_w idx =>
    simp only [mm_okI, Bool.and_eq_true, decide_eq_true_eq] at hok
    obtain ⟨rfl, hv⟩ := hok
    cases v with
    | int x => exact gs_ldcw hx hb hown (hts _ (hTs _ (hws _ List.mem_cons_self))) hd (hk _ _ _ h)
    | _ => cases hv
  | ldc2_w idx =>
    simp only [mm_okI, Bool.and_eq_true, decide_eq_true_eq] at hok
    obtain ⟨rfl, hv⟩ := hok
    cases v with
    | long x => exact gs_ldc2 hx hb hown (hts _ (hTs _ (hws _ List.mem_cons_self))) hd (hk _ _ _ h)
    | _ => cases hv
  | iload_n k9 =>
    obtain ⟨rfl, e9⟩ := of_decide_eq_true hok
    obtain ⟨v9, hv9, ha_⟩ := mi_ld h
    obtain ⟨x, rfl, hb_⟩ := mi_isI ha_
    exact gs_iload_n hx hb e9 hv9 hd (hk _ _ _ hb_)
  | iload k9 =>
    obtain ⟨rfl, e9⟩ := of_decide_eq_true hok
    obtain ⟨v9, hv9, ha_⟩ := mi_ld h
    obtain ⟨x, rfl, hb_⟩ := mi_isI ha_
    subst e9
    exact gs_iload hx hb hv9 hd (hk _ _ _ hb_)
  | lload_n k9 =>
    obtain ⟨rfl, e9⟩ := of_decide_eq_true hok
    obtain ⟨v9, hv9, ha_⟩ := mi_ld h
    obtain ⟨x, rfl, hb_⟩ := mi_isJ ha_
    exact gs_lload_n hx hb e9 hv9 hd (hk _ _ _ hb_)
  | lload k9 =>
    obtain ⟨rfl, e9⟩ := of_decide_eq_true hok
    obtain ⟨v9, hv9, ha_⟩ := mi_ld h
    obtain ⟨x, rfl, hb_⟩ := mi_isJ ha_
    subst e9
    exact gs_lload hx hb hv9 hd (hk _ _ _ hb_)
  | aload_n k9 =>
    obtain ⟨rfl, e9⟩ := of_decide_eq_true hok
    obtain ⟨v9, hv9, ha_⟩ := mi_ld h
    obtain ⟨hv8, hb_⟩ := mi_isA ha_
    rcases hv8 with ⟨x, rfl⟩ | rfl
    · exact gs_aload_n hx hb e9 hv9 hd (hk _ _ _ hb_)
    · exact gs_aload_nN hx hb e9 hv9 hd (hk _ _ _ hb_)
  | aload k9 =>
    obtain ⟨rfl, e9⟩ := of_decide_eq_true hok
    obtain ⟨v9, hv9, ha_⟩ := mi_ld h
    obtain ⟨hv8, hb_⟩ := mi_isA ha_
    rcases hv8 with ⟨x, rfl⟩ | rfl
    · subst e9; exact gs_aload hx hb hv9 hd (hk _ _ _ hb_)
    · subst e9; exact gs_aloadN hx hb hv9 hd (hk _ _ _ hb_)
  | istore_n k9 =>
    obtain ⟨rfl, e9, hn9⟩ := of_decide_eq_true hok
    obtain ⟨x, r, rfl, ha_⟩ := mi_pI h
    have hb_ : _ = some res := (mm_nrm_eq _ _).symm.trans ha_
    exact gs_istore_n hx hb e9 hn9 hd (hk _ _ _ hb_)
  | istore k9 =>
    obtain ⟨rfl, e9, hn9⟩ := of_decide_eq_true hok
    obtain ⟨x, r, rfl, ha_⟩ := mi_pI h
    have hb_ : _ = some res := (mm_nrm_eq _ _).symm.trans ha_
    subst e9
    exact gs_istore hx hb hn9 hd (hk _ _ _ hb_)
  | lstore_n k9 =>
    obtain ⟨rfl, e9, hn9⟩ := of_decide_eq_true hok
    obtain ⟨x, r, rfl, ha_⟩ := mi_pJ h
    have hb_ : _ = some res := (mm_nrm_eq _ _).symm.trans ha_
    exact gs_lstore_n hx hb e9 hn9 hd (hk _ _ _ hb_)
  | lstore k9 =>
    obtain ⟨rfl, e9, hn9⟩ := of_decide_eq_true hok
    obtain ⟨x, r, rfl, ha_⟩ := mi_pJ h
    have hb_ : _ = some res := (mm_nrm_eq _ _).symm.trans ha_
    subst e9
    exact gs_lstore hx hb hn9 hd (hk _ _ _ hb_)
  | astore_n k9 =>
    obtain ⟨rfl, e9, hn9⟩ := of_decide_eq_true hok
    rcases mi_pN h with ⟨x, r, rfl, ha_⟩ | ⟨r, rfl, ha_⟩
    · exact gs_astore_n hx hb e9 hn9 hd (hk _ _ _ ((mm_nrm_eq _ _).symm.trans ha_))
    · exact gs_astore_nN hx hb e9 hn9 hd (hk _ _ _ ((mm_nrm_eq _ _).symm.trans ha_))
  | astore k9 =>
    obtain ⟨rfl, e9, hn9⟩ := of_decide_eq_true hok
    rcases mi_pN h with ⟨x, r, rfl, ha_⟩ | ⟨r, rfl, ha_⟩
    · subst e9; exact gs_astore hx hb hn9 hd (hk _ _ _ ((mm_nrm_eq _ _).symm.trans ha_))
    · subst e9; exact gs_astoreN hx hb hn9 hd (hk _ _ _ ((mm_nrm_eq _ _).symm.trans ha_))
  | iinc k9 z =>
    obtain ⟨rfl, rfl, rfl, hn9⟩ := of_decide_eq_true hok
    obtain ⟨v9, hv9, ha_⟩ := mi_ld h
    obtain ⟨y9, r9, e1, hb_⟩ := mi_pI ha_
    cases e1
    obtain ⟨n9, r8, e2, hc_⟩ := mi_pI hb_
    cases e2
    have hd_ : _ = some res := (mm_nrm_eq _ _).symm.trans hc_
    exact gs_iinc hx hb hv9 rfl hn9 hd (hk _ _ _ hd_)
  | iadd =>
    obtain rfl : len = 1 := of_decide_eq_true hok
    obtain ⟨x, y, r, rfl, ha_⟩ := mi_pII h
    exact gs_iadd hx hb hd (hk _ _ _ ha_)
  | isub =>
    obtain rfl : len = 1 := of_decide_eq_true hok
    obtain ⟨x, y, r, rfl, ha_⟩ := mi_pII h
    exact gs_isub hx hb hd (hk _ _ _ ha_)
  | imul =>
    obtain rfl : len = 1 := of_decide_eq_true hok
    obtain ⟨x, y, r, rfl, ha_⟩ := mi_pII h
    exact gs_imul hx hb hd (hk _ _ _ ha_)
  | iand =>
    obtain rfl : len = 1 := of_decide_eq_true hok
    obtain ⟨x, y, r, rfl, ha_⟩ := mi_pII h
    exact gs_iand hx hb hd (hk _ _ _ ha_)
  | ior =>
    obtain rfl : len = 1 := of_decide_eq_true hok
    obtain ⟨x, y, r, rfl, ha_⟩ := mi_pII h
    exact gs_ior hx hb hd (hk _ _ _ ha_)
  | ixor =>
    obtain rfl : len = 1 := of_decide_eq_true hok
    obtain ⟨x, y, r, rfl, ha_⟩ := mi_pII h
    exact gs_ixor hx hb hd (hk _ _ _ ha_)
  | ishl =>
    obtain rfl : len = 1 := of_decide_eq_true hok
    obtain ⟨x, y, r, rfl, ha_⟩ := mi_pII h
    exact gs_ishl hx hb hd (hk _ _ _ ha_)
  | ishr =>
    obtain rfl : len = 1 := of_decide_eq_true hok
    obtain ⟨x, y, r, rfl, ha_⟩ := mi_pII h
    exact gs_ishr hx hb hd (hk _ _ _ ha_)
  | iushr =>
    obtain rfl : len = 1 := of_decide_eq_true hok
    obtain ⟨x, y, r, rfl, ha_⟩ := mi_pII h
    exact gs_iushr hx hb hd (hk _ _ _ ha_)
  | idiv =>
    obtain rfl : len = 1 := of_decide_eq_true hok
    obtain ⟨x, y, r, rfl, ha_⟩ := mi_pII h
    by_cases hy0 : y = 0
    · rw [if_pos hy0] at ha_; cases ha_
    · rw [if_neg hy0] at ha_; exact gs_idiv hx hb hy0 hd (hk _ _ _ ha_)
  | irem =>
    obtain rfl : len = 1 := of_decide_eq_true hok
    obtain ⟨x, y, r, rfl, ha_⟩ := mi_pII h
    by_cases hy0 : y = 0
    · rw [if_pos hy0] at ha_; cases ha_
    · rw [if_neg hy0] at ha_; exact gs_irem hx hb hy0 hd (hk _ _ _ ha_)
  | ladd =>
    obtain rfl : len = 1 := of_decide_eq_true hok
    obtain ⟨x, y, r, rfl, ha_⟩ := mi_pJJ h
    exact gs_ladd hx hb hd (hk _ _ _ ha_)
  | lsub =>
    obtain rfl : len = 1 := of_decide_eq_true hok
    obtain ⟨x, y, r, rfl, ha_⟩ := mi_pJJ h
    exact gs_lsub hx hb hd (hk _ _ _ ha_)
  | lmul =>
    obtain rfl : len = 1 := of_decide_eq_true hok
    obtain ⟨x, y, r, rfl, ha_⟩ := mi_pJJ h
    exact gs_lmul hx hb hd (hk _ _ _ ha_)
  | land =>
    obtain rfl : len = 1 := of_decide_eq_true hok
    obtain ⟨x, y, r, rfl, ha_⟩ := mi_pJJ h
    exact gs_land hx hb hd (hk _ _ _ ha_)
  | lor =>
    obtain rfl : len = 1 := of_decide_eq_true hok
    obtain ⟨x, y, r, rfl, ha_⟩ := mi_pJJ h
    exact gs_lor hx hb hd (hk _ _ _ ha_)
  | lcmp =>
    obtain rfl : len = 1 := of_decide_eq_true hok
    obtain ⟨x, y, r, rfl, ha_⟩ := mi_pJJ h
    exact gs_lcmp hx hb hd (hk _ _ _ ha_)
  | ldiv =>
    obtain rfl : len = 1 := of_decide_eq_true hok
    obtain ⟨x, y, r, rfl, ha_⟩ := mi_pJJ h
    by_cases hy0 : y = 0
    · rw [if_pos hy0] at ha_; cases ha_
    · rw [if_neg hy0] at ha_; exact gs_ldiv hx hb hy0 hd (hk _ _ _ ha_)
  | lrem =>
    obtain rfl : len = 1 := of_decide_eq_true hok
    obtain ⟨x, y, r, rfl, ha_⟩ := mi_pJJ h
    by_cases hy0 : y = 0
    · rw [if_pos hy0] at ha_; cases ha_
    · rw [if_neg hy0] at ha_; exact gs_lrem hx hb hy0 hd (hk _ _ _ ha_)
  | lshl =>
    obtain rfl : len = 1 := of_decide_eq_true hok
    obtain ⟨x, y, r, rfl, ha_⟩ := mi_pJI h
    exact gs_lshl hx hb hd (hk _ _ _ ha_)
  | lushr =>
    obtain rfl : len = 1 := of_decide_eq_true hok
    obtain ⟨x, y, r, rfl, ha_⟩ := mi_pJI h
    exact gs_lushr hx hb hd (hk _ _ _ ha_)
  | ineg =>
    obtain rfl : len = 1 := of_decide_eq_true hok
    obtain ⟨x, r, rfl, ha_⟩ := mi_pI h
    exact gs_ineg hx hb hd (hk _ _ _ ha_)
  | i2l =>
    obtain rfl : len = 1 := of_decide_eq_true hok
    obtain ⟨x, r, rfl, ha_⟩ := mi_pI h
    exact gs_i2l hx hb hd (hk _ _ _ ha_)
  | l2i =>
    obtain rfl : len = 1 := of_decide_eq_true hok
    obtain ⟨x, r, rfl, ha_⟩ := mi_pJ h
    exact gs_l2i hx hb hd (hk _ _ _ ha_)
  | dup =>
    obtain rfl : len = 1 := of_decide_eq_true hok
    obtain ⟨x, r, rfl, hc9, ha_⟩ := mi_p1 h
    exact gs_dup hx hb hc9 hd (hk _ _ _ ha_)
  | pop =>
    obtain rfl : len = 1 := of_decide_eq_true hok
    obtain ⟨x, r, rfl, hc9, ha_⟩ := mi_p1 h
    exact gs_pop hx hb hc9 hd (hk _ _ _ ha_)
  | dup2 =>
    obtain rfl : len = 1 := of_decide_eq_true hok
    obtain ⟨x, y, r, rfl, hc8, hc9, ha_⟩ := mi_p11 h
    exact gs_dup2 hx hb hc8 hc9 hd (hk _ _ _ ha_)
  | goto o9 =>
    obtain ⟨rfl, ht⟩ := of_decide_eq_true hok
    exact gs_goto hx hb hd ht (hg _ _ _ _ h)
  | ifCond q9 o9 =>
    obtain ⟨rfl, ht⟩ := of_decide_eq_true hok
    obtain ⟨x, r, rfl, ha_⟩ := mi_pI h
    cases q9 with
    | eq => exact gs_if_eq hx hb hd ht (fun q => hg _ _ _ _ (by simp only [mm_br, if_pos q] at ha_; exact ha_)) (fun q => hk _ _ _ (by simp only [mm_br, if_neg q] at ha_; exact ha_))
    | ne => exact gs_if_ne hx hb hd ht (fun q => hg _ _ _ _ (by simp only [mm_br, if_neg q] at ha_; exact ha_)) (fun q => hk _ _ _ (by simp only [mm_br, if_pos q] at ha_; exact ha_))
    | lt => exact gs_if_lt hx hb hd ht (fun q => hg _ _ _ _ (by simp only [mm_br, if_pos q] at ha_; exact ha_)) (fun q => hk _ _ _ (by simp only [mm_br, if_neg q] at ha_; exact ha_))
    | ge => exact gs_if_ge hx hb hd ht (fun q => hg _ _ _ _ (by simp only [mm_br, if_pos q] at ha_; exact ha_)) (fun q => hk _ _ _ (by simp only [mm_br, if_neg q] at ha_; exact ha_))
    | gt => exact gs_if_gt hx hb hd ht (fun q => hg _ _ _ _ (by simp only [mm_br, if_pos q] at ha_; exact ha_)) (fun q => hk _ _ _ (by simp only [mm_br, if_neg q] at ha_; exact ha_))
    | le => exact gs_if_le hx hb hd ht (fun q => hg _ _ _ _ (by simp only [mm_br, if_pos q] at ha_; exact ha_)) (fun q => hk _ _ _ (by simp only [mm_br, if_neg q] at ha_; exact ha_))
  | if_icmp q9 o9 =>
    obtain ⟨rfl, ht⟩ := of_decide_eq_true hok
    obtain ⟨x, y, r, rfl, ha_⟩ := mi_pII h
    cases q9 with
    | eq => exact gs_icmp_eq hx hb hd ht (fun q => hg _ _ _ _ (by simp only [mm_br, if_pos q] at ha_; exact ha_)) (fun q => hk _ _ _ (by simp only [mm_br, if_neg q] at ha_; exact ha_))
    | ne => exact gs_icmp_ne hx hb hd ht (fun q => hg _ _ _ _ (by simp only [mm_br, if_neg q] at ha_; exact ha_)) (fun q => hk _ _ _ (by simp only [mm_br, if_pos q] at ha_; exact ha_))
    | lt => exact gs_icmp_lt hx hb hd ht (fun q => hg _ _ _ _ (by simp only [mm_br, if_pos q] at ha_; exact ha_)) (fun q => hk _ _ _ (by simp only [mm_br, if_neg q] at ha_; exact ha_))
    | ge => exact gs_icmp_ge hx hb hd ht (fun q => hg _ _ _ _ (by simp only [mm_br, if_pos q] at ha_; exact ha_)) (fun q => hk _ _ _ (by simp only [mm_br, if_neg q] at ha_; exact ha_))
    | gt => exact gs_icmp_gt hx hb hd ht (fun q => hg _ _ _ _ (by simp only [mm_br, if_pos q] at ha_; exact ha_)) (fun q => hk _ _ _ (by simp only [mm_br, if_neg q] at ha_; exact ha_))
    | le => exact gs_icmp_le hx hb hd ht (fun q => hg _ _ _ _ (by simp only [mm_br, if_pos q] at ha_; exact ha_)) (fun q => hk _ _ _ (by simp only [mm_br, if_neg q] at ha_; exact ha_))
  | ifnull o9 =>
    obtain ⟨rfl, ht⟩ := of_decide_eq_true hok
    rcases mi_pN h with ⟨x, r, rfl, ha_⟩ | ⟨r, rfl, ha_⟩
    · exact gs_ifnull_r hx hb hd ht (hk _ _ _ ha_)
    · exact gs_ifnull_n (x := 0) hx hb hd ht (hg _ _ _ _ ha_)
  | ifnonnull o9 =>
    obtain ⟨rfl, ht⟩ := of_decide_eq_true hok
    rcases mi_pN h with ⟨x, r, rfl, ha_⟩ | ⟨r, rfl, ha_⟩
    · exact gs_ifnonnull_r hx hb hd ht (hg _ _ _ _ ha_)
    · exact gs_ifnonnull_n (x := 0) hx hb hd ht (hk _ _ _ ha_)
  | tableswitch d9 lo hi offs =>
    simp only [mm_okI, Bool.and_eq_true, decide_eq_true_eq] at hok
    obtain ⟨x, r, rfl, ha_⟩ := mi_pI h
    exact gc_table hx hb hd hok.1.1 hok.2 hok.1.2 ha_ (fun t ht => hg _ _ _ _ ht)
  | lookupswitch d9 ps9 =>
    simp only [mm_okI, Bool.and_eq_true, decide_eq_true_eq] at hok
    obtain ⟨x, r, rfl, ha_⟩ := mi_pI h
    exact gc_lookup hx hb hd hok.1.1 (by simpa using hok.2) hok.1.2 ha_ (fun t ht => hg _ _ _ _ ht)
  | ireturn =>
    simp only [mm_okI, Bool.and_eq_true, decide_eq_true_eq] at hok
    obtain ⟨rfl, hok⟩ := hok
    obtain ⟨x, r, rfl, ha_⟩ := mi_pI h
    cases r with
    | cons z zs => cases ha_
    | nil =>
      cases b with
      | zero =>
        have hrt2 : rt = some .int := of_decide_eq_true hok
        cases ha_
        rw [hQr rfl]
        exact gc_iret (y := 0) (a := 0) hx hb hA0 hM0 hK hlocks (by rw [hrt]; exact hrt2) hd
      | succ b =>
        have hrt2 : rt = some .boolean := of_decide_eq_true hok
        by_cases h0 : x = 0
        · simp only [mm_sem, h0] at ha_
          cases ha_
          rw [h0]
          rw [hQr rfl]
          exact gc_zret (y := 0) (a := 0) hx hb hA0 hM0 hK hlocks (by rw [hrt]; exact hrt2) (Or.inl rfl) hd
        · by_cases h1 : x = 1
          · subst h1
            cases ha_
            rw [hQr rfl]
            exact gc_zret (y := 0) (a := 0) hx hb hA0 hM0 hK hlocks (by rw [hrt]; exact hrt2) (Or.inr rfl) hd
          · simp only [if_neg h0, if_neg h1] at ha_
            cases ha_
  | lreturn =>
    obtain ⟨rfl, hrt2⟩ := of_decide_eq_true hok
    obtain ⟨x, r, rfl, ha_⟩ := mi_pJ h
    cases r with
    | cons z zs => cases ha_
    | nil =>
      cases ha_
      rw [hQr rfl]
      exact gc_lret (x := 0) (a := 0) hx hb hA0 hM0 hK hlocks (by rw [hrt]; exact hrt2) hd
  | areturn =>
    simp only [mm_okI, Bool.and_eq_true, decide_eq_true_eq] at hok
    obtain ⟨rfl, hok⟩ := hok
    obtain ⟨x, r, rfl, ha_⟩ := mi_pR h
    cases r with
    | cons z zs => cases ha_
    | nil =>
      cases ha_
      cases rt with
      | none => cases hok
      | some t9 =>
        rw [hQr rfl]
        refine gc_aret (x := 0) (y := 0) hx hb hA0 hM0 hK hlocks hrt ?_ hd
        cases t9 with
        | object n9 => exact Or.inl ⟨_, rfl⟩
        | array n9 => exact Or.inr ⟨_, rfl⟩
        | _ => cases hok
  | return_ =>
    obtain ⟨rfl, hrt2⟩ := of_decide_eq_true hok
    cases K with
    | cons z zs => cases h
    | nil =>
      cases h
      rw [hQr rfl]
      exact gc_vret (x := 0) (y := 0) (a := 0) hx hb hA0 hM0 hK hlocks (by rw [hrt]; exact hrt2) hd
  | getfield idx =>
    cases hq : mm_cl[a]? with
    | none => simp only [mm_okI, hq] at hok; cases hok
    | some q =>
      simp only [mm_okI, hq, decide_eq_true_eq] at hok
      obtain ⟨rfl, hb9, htk, hc4⟩ := hok
      have hlink : (Cond.fieldLink own idx (q.2.1 b).1 (q.2.1 b).2.1 (q.2.1 b).2.2.1).before args s = true ∨ ∃ host, (Cond.fieldLinkNest own idx (q.2.1 b).1 (q.2.1 b).2.1 (q.2.1 b).2.2.1 host).before args s = true := by
            rcases (show (c9 / 4) % 4 = 0 ∨ (c9 / 4) % 4 = 1 by omega) with h4 | h4
            · refine Or.inl (hts _ (hTs _ (hws _ ?_)))
              simp only [mm_wds, hq, h4]
              exact List.mem_cons_self
            · refine Or.inr ⟨mm_host, va_Nw.use rfl (hN _ (hns _ ?_))⟩
              simp only [mm_nwd, hq, h4]
              exact List.mem_cons_self
      obtain ⟨o, r, rfl, ha_⟩ := mi_pR h
      obtain ⟨ho, hb_⟩ := mi_cond ha_
      have ho := mm_obj_eq ho
      rcases (show c9 % 4 = 0 ∨ c9 % 4 = 1 ∨ c9 % 4 = 2 ∨ c9 % 4 = 3 by omega) with h4 | h4 | h4 | h4
      · simp only [h4] at hb_
        exact gh_getI hx hb hY hts hown hK hq (fun w hw => hTs w (hlay a q hq w hw)) hb9 hlink ho (Or.inl (mm_tk0 (htk.trans h4))) hd (hk _ _ _ hb_)
      · simp only [h4] at hb_
        exact gh_getJ hx hb hY hts hown hK hq (fun w hw => hTs w (hlay a q hq w hw)) hb9 hlink ho (mm_tk1 (htk.trans h4)) hd (hk _ _ _ hb_)
      · simp only [h4] at hb_
        exact gh_getP hx hb hY hts hown hK hq (fun w hw => hTs w (hlay a q hq w hw)) hb9 hlink ho (htk.trans h4) hd (hk _ _ _ hb_)
      · simp only [h4] at hb_
        exact gh_getI hx hb hY hts hown hK hq (fun w hw => hTs w (hlay a q hq w hw)) hb9 hlink ho (Or.inr (mm_tk3 (htk.trans h4))) hd (hk _ _ _ hb_)
  | putfield idx =>
    cases hq : mm_cl[a]? with
    | none => simp only [mm_okI, hq] at hok; cases hok
    | some q =>
      simp only [mm_okI, hq, decide_eq_true_eq, Bool.and_eq_true, Bool.or_eq_true] at hok
      obtain ⟨⟨rfl, hb9, htk, hc4⟩, hfi⟩ := hok
      have hlink : (Cond.fieldLink own idx (q.2.1 b).1 (q.2.1 b).2.1 (q.2.1 b).2.2.1).before args s = true ∨ ∃ host, (Cond.fieldLinkNest own idx (q.2.1 b).1 (q.2.1 b).2.1 (q.2.1 b).2.2.1 host).before args s = true := by
            rcases (show (c9 / 4) % 4 = 0 ∨ (c9 / 4) % 4 = 1 by omega) with h4 | h4
            · refine Or.inl (hts _ (hTs _ (hws _ ?_)))
              simp only [mm_wds, hq, h4]
              exact List.mem_cons_self
            · refine Or.inr ⟨mm_host, va_Nw.use rfl (hN _ (hns _ ?_))⟩
              simp only [mm_nwd, hq, h4]
              exact List.mem_cons_self
      have hfin : (q.2.1 b).2.2.2 = false ∨ ((q.2.1 b).2.2.2 = true ∧ meth.name = "<init>" ∧ (q.2.1 b).1 = own ∧ (Cond.fieldLink own idx (q.2.1 b).1 (q.2.1 b).2.1 (q.2.1 b).2.2.1).before args s = true) := by
            cases hf9 : (q.2.1 b).2.2.2 with
            | false => exact Or.inl rfl
            | true =>
              rcases hfi with hfi | ⟨e1, e2, e3⟩
              · rw [hf9] at hfi; cases hfi
              · refine Or.inr ⟨rfl, hnm e1, e2, hts _ (hTs _ (hws _ ?_))⟩
                simp only [mm_wds, hq, e3]
                exact List.mem_cons_self
      rcases (show c9 % 4 = 0 ∨ c9 % 4 = 1 ∨ c9 % 4 = 2 ∨ c9 % 4 = 3 by omega) with h4 | h4 | h4 | h4
      · simp only [mm_sem, h4] at h
        obtain ⟨x, r1, rfl, ha_⟩ := mi_pI h
        obtain ⟨o, r, rfl, hb_⟩ := mi_pR ha_
        obtain ⟨ho, hc_⟩ := mi_cond hb_
        have ho := mm_obj_eq ho
        exact gh_putI hx hb hY hts hown hK hq (fun w hw => hTs w (hlay a q hq w hw)) hb9 hlink ho hfin (mm_tk0 (htk.trans h4)) hd (hk _ _ _ hc_)
      · simp only [mm_sem, h4] at h
        obtain ⟨x, r1, rfl, ha_⟩ := mi_pJ h
        obtain ⟨o, r, rfl, hb_⟩ := mi_pR ha_
        obtain ⟨ho, hc_⟩ := mi_cond hb_
        have ho := mm_obj_eq ho
        exact gh_putJ hx hb hY hts hown hK hq (fun w hw => hTs w (hlay a q hq w hw)) hb9 hlink ho hfin (mm_tk1 (htk.trans h4)) hd (hk _ _ _ hc_)
      · simp only [mm_sem, h4] at h
        obtain ⟨x, r1, rfl, ha_⟩ := mi_pR h
        obtain ⟨o, r, rfl, hb_⟩ := mi_pR ha_
        obtain ⟨ho, hc_⟩ := mi_cond hb_
        rw [Bool.and_eq_true] at ho
        obtain ⟨ho, hfr⟩ := ho
        have ho := mm_obj_eq ho
        exact gh_putP hx hb hY hts hown hK hq (fun w hw => hTs w (hlay a q hq w hw)) hb9 hlink ho hfin (htk.trans h4) hfr hd (hk _ _ _ hc_)
      · simp only [mm_sem, h4] at h
        obtain ⟨x, r1, rfl, ha_⟩ := mi_pI h
        obtain ⟨o, r, rfl, hb_⟩ := mi_pR ha_
        obtain ⟨ho, hc_⟩ := mi_cond hb_
        have ho := mm_obj_eq ho
        by_cases h0 : x = 0
        · subst h0
          exact gh_putZ hx hb hY hts hown hK hq (fun w hw => hTs w (hlay a q hq w hw)) hb9 hlink ho hfin (mm_tk3 (htk.trans h4)) (Or.inl rfl) hd (hk _ _ _ hc_)
        · by_cases h1 : x = 1
          · subst h1
            exact gh_putZ hx hb hY hts hown hK hq (fun w hw => hTs w (hlay a q hq w hw)) hb9 hlink ho hfin (mm_tk3 (htk.trans h4)) (Or.inr rfl) hd (hk _ _ _ hc_)
          · rw [if_neg h0, if_neg h1] at hc_; cases hc_
  | getstatic idx =>
    obtain ⟨rfl, ha9⟩ := of_decide_eq_true hok
    obtain ⟨q, hq⟩ : ∃ q, mm_stat[a]? = some q := ⟨_, List.getElem?_eq_getElem (show a < mm_stat.length from ha9)⟩
    refine ga_stat hx hb h16n hZ hown hq (hts _ (hTs _ (hws _ ?_))) hd (hk _ _ _ h)
    simp only [mm_wds, hq]
    exact List.mem_cons_self
  | arraylength =>
    obtain rfl : len = 1 := of_decide_eq_true hok
    obtain ⟨o, r, rfl, ha_⟩ := mi_pR h
    cases ho : mm_s Y M o with
    | inl ci => simp only [ho] at ha_; cases ha_
    | inr q =>
      obtain ⟨ty, n⟩ := q
      simp only [ho] at ha_
      obtain ⟨hty, hb_⟩ := mi_cond ha_
      simp only [Bool.and_eq_true, Bool.or_eq_true, Bool.not_eq_true'] at hty
      exact ga_len hx hb hY hK h16n hT (Nat.le_of_ble_eq_true hty.1) ho (hty.2.elim (fun z => Or.inl fun e => by subst e; cases z) (fun z => Or.inr fun e => absurd (Nat.blt_eq.mp z) (by omega))) hd (hk _ _ _ hb_)
  | iaload =>
    obtain rfl : len = 1 := of_decide_eq_true hok
    obtain ⟨o, i9, r, rfl, ha_⟩ := mi_pRI h
    obtain ⟨n9, ho, hb_⟩ := mi_bind ha_
    obtain ⟨hi, hc_⟩ := mi_cond hb_
    exact ga_iald hx hb hY hK h16n hT (mm_arr_eq ho) (mm_inb_in hi) hd (hk _ _ _ hc_)
  | baload =>
    obtain rfl : len = 1 := of_decide_eq_true hok
    obtain ⟨o, i9, r, rfl, ha_⟩ := mi_pRI h
    obtain ⟨n9, ho, hb_⟩ := mi_bind ha_
    obtain ⟨hi, hc_⟩ := mi_cond hb_
    exact ga_bald hx hb hY hK h16n hT (mm_arr_eq ho) (mm_inb_in hi) hd (hk _ _ _ hc_)
  | caload =>
    obtain rfl : len = 1 := of_decide_eq_true hok
    obtain ⟨o, i9, r, rfl, ha_⟩ := mi_pRI h
    obtain ⟨n9, ho, hb_⟩ := mi_bind ha_
    obtain ⟨hi, hc_⟩ := mi_cond hb_
    rw [Bool.and_eq_true] at hi
    exact ga_cald hx hb hY hK h16n hT (mm_arr_eq ho) (by have := Nat.blt_eq.mp hi.2; omega) (mm_inb_in hi.1) hd (hk _ _ _ hc_)
  | laload =>
    obtain rfl : len = 1 := of_decide_eq_true hok
    obtain ⟨o, i9, r, rfl, ha_⟩ := mi_pRI h
    obtain ⟨n9, ho, hb_⟩ := mi_bind ha_
    obtain ⟨hi, hc_⟩ := mi_cond hb_
    rw [Bool.and_eq_true] at hi
    exact ga_lald hx hb hY hK h16n hT (mm_arr_eq ho) (Nat.le_of_ble_eq_true hi.2) (mm_inb_in hi.1) hd (hk _ _ _ hc_)
  | aaload =>
    obtain ⟨rfl, ha9⟩ := of_decide_eq_true hok
    obtain ⟨o, i9, r, rfl, ha_⟩ := mi_pRI h
    obtain ⟨n9, ho, hb_⟩ := mi_bind ha_
    obtain ⟨hi, hc_⟩ := mi_cond hb_
    rw [Bool.and_eq_true] at hi
    rcases (show a = 0 ∨ a = 1 by omega) with rfl | rfl
    · exact ga_aald4 hx hb hY hK h16n hT (mm_arr_eq ho) (Nat.le_of_ble_eq_true hi.2) (mm_inb_in hi.1) hd (hk _ _ _ hc_)
    · exact ga_aald5 hx hb hY hK h16n hT (mm_arr_eq ho) (Nat.le_of_ble_eq_true hi.2) (mm_inb_in hi.1) hd (hk _ _ _ hc_)
  | iastore =>
    obtain rfl : len = 1 := of_decide_eq_true hok
    obtain ⟨o, i9, x, r, rfl, ha_⟩ := mi_pRII h
    obtain ⟨n9, ho, hb_⟩ := mi_bind ha_
    obtain ⟨hi, hc_⟩ := mi_cond hb_
    rw [Bool.and_eq_true] at hi
    exact ga_iast hx hb hY hK h16n hT (mm_arr_eq ho) (Nat.le_of_ble_eq_true hi.2) (mm_inb_in hi.1) hd (hk _ _ _ hc_)
  | bastore =>
    obtain rfl : len = 1 := of_decide_eq_true hok
    obtain ⟨o, i9, x, r, rfl, ha_⟩ := mi_pRII h
    obtain ⟨n9, ho, hb_⟩ := mi_bind ha_
    obtain ⟨hi, hc_⟩ := mi_cond hb_
    rw [Bool.and_eq_true] at hi
    exact ga_bast hx hb hY hK h16n hT (mm_arr_eq ho) (Nat.le_of_ble_eq_true hi.2) (mm_inb_in hi.1) hd (hk _ _ _ hc_)
  | lastore =>
    obtain rfl : len = 1 := of_decide_eq_true hok
    obtain ⟨o, i9, x, r, rfl, ha_⟩ := mi_pRIJ h
    obtain ⟨n9, ho, hb_⟩ := mi_bind ha_
    obtain ⟨hi, hc_⟩ := mi_cond hb_
    rw [Bool.and_eq_true] at hi
    exact ga_last hx hb hY hK h16n hT (mm_arr_eq ho) (Nat.le_of_ble_eq_true hi.2) (mm_inb_in hi.1) hd (hk _ _ _ hc_)
  | aastore =>
    obtain ⟨rfl, ha9⟩ := of_decide_eq_true hok
    obtain ⟨o, i9, x, r, rfl, ha_⟩ := mi_pRIR h
    obtain ⟨n9, ho, hb_⟩ := mi_bind ha_
    obtain ⟨hi, hc_⟩ := mi_cond hb_
    simp only [Bool.and_eq_true] at hi
    obtain ⟨hi1, ⟨hi2, hi3, hi4⟩, hi5⟩ := hi
    rcases (show a = 0 ∨ a = 1 by omega) with rfl | rfl
    · exact ga_aast4 hx hb hY hK h16n hT hi4 (Nat.le_of_ble_eq_true hi3) (mm_obj_eq hi5) (mm_arr_eq ho) (Nat.le_of_ble_eq_true hi2) (mm_inb_in hi1) hd (hk _ _ _ hc_)
    · cases hx9 : mm_arr (mm_s Y M x) 0 with
      | none => simp only [hx9] at hi5; cases hi5
      | some nx => exact ga_aast5 hx hb hY hK h16n hT h5 hi4 (Nat.le_of_ble_eq_true hi3) (mm_arr_eq hx9) (mm_arr_eq ho) (Nat.le_of_ble_eq_true hi2) (mm_inb_in hi1) hd (hk _ _ _ hc_)
  | newarray at9 =>
    obtain ⟨rfl, hat⟩ := of_decide_eq_true hok
    obtain ⟨x, r, rfl, ha_⟩ := mi_pI h
    obtain ⟨hi, hb_⟩ := mi_cond ha_
    simp only [Bool.and_eq_true, Bool.not_eq_true', decide_eq_false_iff_not] at hi
    exact ga_newa hx hb hY hK h16n hA hRc hRs hat hi.2.1 (Nat.le_of_ble_eq_true hi.2.2) (hts _ (hTs _ (hws _ List.mem_cons_self))) hd (hk _ _ _ hb_)
  | anewarray idx =>
    obtain rfl : len = 3 := of_decide_eq_true hok
    obtain ⟨x, r, rfl, ha_⟩ := mi_pI h
    obtain ⟨hi, hb_⟩ := mi_cond ha_
    simp only [Bool.and_eq_true, Bool.not_eq_true', decide_eq_false_iff_not] at hi
    exact ga_anew hx hb hY hK h16n hA hRc hRs hown (hts _ (hTs _ (hws _ List.mem_cons_self))) hO hi.2.1 (Nat.le_of_ble_eq_true hi.2.2) hd (hk _ _ _ hb_)
  | multianewarray idx k9 =>
    obtain ⟨rfl, rfl⟩ := of_decide_eq_true hok
    obtain ⟨x, y, r, rfl, ha_⟩ := mi_pII h
    obtain ⟨hi, hb_⟩ := mi_cond ha_
    simp only [Bool.and_eq_true, decide_eq_true_eq] at hi
    obtain ⟨-, rfl, rfl⟩ := hi
    exact ga_mna hx hb hY hK h16n hA hRc hRs hown (hts _ (hTs _ (hws _ List.mem_cons_self))) h5 (hts _ (hTs _ (hws _ (List.mem_cons_of_mem _ List.mem_cons_self)))) hd (hk _ _ _ hb_)
  | new idx =>
    obtain ⟨rfl, ha9⟩ := of_decide_eq_true hok
    obtain ⟨q, hq⟩ : ∃ q, mm_cl[a]? = some q := ⟨_, List.getElem?_eq_getElem (show a < mm_cl.length from ha9)⟩
    simp only [mm_sem, (mm_cl_ok a q hq).1] at h
    obtain ⟨hi, ha_⟩ := mi_cond h
    have hw9 : ∀ w ∈ [Cond.classLink own idx q.1, Cond.instantiable q.1 q.2.2, Cond.initialized q.1], w.before args s = true := fun w hw => hts _ (hTs _ (hws _ (by simp only [mm_wds, hq]; exact hw)))
    exact ga_new hx hb hY hK h16n hA hRc hRs hts hown hq (fun w hw => hTs w (hlay a q hq w hw)) (hw9 _ (by simp)) (hw9 _ (by simp)) (hw9 _ (by simp)) hd (hk _ _ _ ha_)
  | invokevirtual idx =>
    cases hy : mth[a]? with
    | none => simp only [mm_okI, hy] at hok; cases hok
    | some y =>
      cases hq : mm_cl[c9 / 16]? with
      | none => simp only [mm_okI, hy, hq] at hok; cases hok
      | some q =>
        simp only [mm_okI, hy, hq, Bool.and_eq_true, decide_eq_true_eq] at hok
        obtain ⟨⟨rfl, hcls, hc4⟩, hpl⟩ := hok
        obtain ⟨p9, hp9, ha_⟩ := mi_bind h
        obtain ⟨as, rest0⟩ := p9
        obtain ⟨bs, e1, rfl, hlen⟩ := mm_pop_eq _ _ _ _ _ hp9
        rw [List.append_nil] at e1
        subst e1
        obtain ⟨o, rest, e2, hb_⟩ := mi_pR ha_
        simp only at e2
        subst e2
        obtain ⟨hi, hc_⟩ := mi_cond hb_
        rw [Bool.and_eq_true] at hi
        obtain ⟨v9, m9, hev, hd_⟩ := mi_ans hc_
        refine sm_callV hx hb hml hown hlocks hrt hnm hTs hts hY hK hnest h16n hA0 hM0 hA hT hZ hN hO h5 hlay hcode hRc hRs hRf hRl hcall hy hq (mm_obj_eq hi.1) hcls hpl (Nat.le_of_ble_eq_true hi.2) hlen hev ?_ hd (hk _ _ _ hd_)
        rcases (show (c9 / 4) % 4 = 0 ∨ (c9 / 4) % 4 = 1 by omega) with h4 | h4
        · simp only [mm_wds, hy, h4] at hws
          exact Or.inl hws
        · simp only [mm_wds, mm_nwd, hy, h4] at hws hns
          exact Or.inr ⟨hws, hns _ List.mem_cons_self⟩
  | invokestatic idx =>
    by_cases h4 : (c9 / 4) % 4 = 2
    · simp only [mm_okI, h4, decide_eq_true_eq] at hok
      subst hok
      simp only [mm_sem, h4] at h
      simp only [mm_wds, h4] at hws
      have hw9 : ∀ w ∈ [Cond.methodLink own idx arraycopyName, Cond.native arraycopyName, Cond.static arraycopyName, Cond.initialized "java/lang/System"], w.before args s = true := fun w hw => hts _ (hTs _ (hws w hw))
      unfold mm_copy at h
      split at h
      · obtain ⟨x1, rfl, ha_⟩ := mi_asR h
        obtain ⟨x2, e2, hb_⟩ := mi_asR ha_
        subst e2
        obtain ⟨nb, hb1, hc_⟩ := mi_bind hb_
        obtain ⟨na, ha1, hd_⟩ := mi_bind hc_
        obtain ⟨hi, he_⟩ := mi_cond hd_
        simp only [Bool.and_eq_true, Bool.not_eq_true', decide_eq_false_iff_not] at hi
        obtain ⟨i1, i2, i3, i4, i5, i6, i7, i8⟩ := hi
        exact gq_copy hx hb hml hY hK hown (hw9 _ (by simp)) (hw9 _ (by simp)) (hw9 _ (by simp)) (hw9 _ (by simp)) (mm_arr_eq hb1) (mm_arr_eq ha1) (Nat.le_of_ble_eq_true i2) (Nat.le_of_ble_eq_true i3) i6 i5 i4 (Nat.le_of_ble_eq_true i7) (Nat.le_of_ble_eq_true i8) (by omega) (Nat.le_trans (show 8 + (nativeFrameWords "java/lang/System" "arraycopy" 5 + 11) ≤ 200 by decide +kernel) (by omega)) (Nat.le_of_ble_eq_true i1) hd (hk _ _ _ he_)
      · cases h
    · cases hy : mth[a]? with
      | none =>
        exfalso
        simp only [mm_okI, hy] at hok
        cases hok
      | some y =>
        have hlk : (decide (len = 3) && mm_plain y.1 b) = true ∧ ((c9 / 4) % 4 = 0 ∨ (c9 / 4) % 4 = 1) := by
          rcases (show (c9 / 4) % 4 = 0 ∨ (c9 / 4) % 4 = 1 ∨ (c9 / 4) % 4 = 3 by omega) with e4 | e4 | e4
          · simp only [mm_okI, hy, e4] at hok; exact ⟨hok, Or.inl e4⟩
          · simp only [mm_okI, hy, e4] at hok; exact ⟨hok, Or.inr e4⟩
          · simp only [mm_okI, hy, e4] at hok; cases hok
        obtain ⟨hok, h04⟩ := hlk
        simp only [Bool.and_eq_true, decide_eq_true_eq] at hok
        obtain ⟨rfl, hpl⟩ := hok
        have ha_ : mm_invS call a b (c9 % 4) L K M k = some res := by rcases h04 with e4 | e4 <;> simpa only [mm_sem, e4] using h
        obtain ⟨p9, hp9, hb_⟩ := mi_bind ha_
        obtain ⟨as, rest⟩ := p9
        obtain ⟨bs, e1, rfl, hlen⟩ := mm_pop_eq _ _ _ _ _ hp9
        rw [List.append_nil] at e1
        subst e1
        obtain ⟨hi, hc_⟩ := mi_cond hb_
        obtain ⟨v9, m9, hev, hd_⟩ := mi_ans hc_
        refine sm_callS hx hb hml hown hlocks hrt hnm hTs hts hY hK hnest h16n hA0 hM0 hA hT hZ hN hO h5 hlay hcode hRc hRs hRf hRl hcall hy hpl (Nat.le_of_ble_eq_true hi) hlen hev ?_ hd (hk _ _ _ hd_)
        rcases h04 with e4 | e4
        · simp only [mm_wds, hy, e4] at hws
          exact Or.inl hws
        · simp only [mm_wds, mm_nwd, hy, e4] at hws hns
          exact Or.inr ⟨hws, hns _ List.mem_cons_self⟩
  | invokespecial idx =>
    by_cases h4 : (c9 / 4) % 4 = 2
    · simp only [mm_okI, h4, decide_eq_true_eq] at hok
      subst hok
      simp only [mm_sem, h4] at h
      simp only [mm_wds, h4] at hws
      have hw9 : ∀ w ∈ [Cond.methodLink own idx Lib.objectInit, Cond.instanceMethod Lib.objectInit, Cond.code Lib.objectInit ⟨#[0xb1]⟩ 1 none], w.before args s = true := fun w hw => hts _ (hTs _ (hws w hw))
      obtain ⟨o, rest, rfl, ha_⟩ := mi_pR h
      obtain ⟨hi, hb_⟩ := mi_cond ha_
      exact gq_obj hx hb hml hown (hw9 _ (by simp)) (hw9 _ (by simp)) (hw9 _ (by simp)) (by omega) (by omega) (Nat.le_of_ble_eq_true hi) hd (hk _ _ _ hb_)
    · cases hy : mth[a]? with
      | none =>
        exfalso
        simp only [mm_okI, hy] at hok
        cases hok
      | some y =>
        have hlk : (decide (len = 3 ∧ y.1.name = "<init>" ∧ y.2.2.2 = none) && mm_plain y.1 b) = true ∧ ((c9 / 4) % 4 = 0 ∨ (c9 / 4) % 4 = 1) := by
          rcases (show (c9 / 4) % 4 = 0 ∨ (c9 / 4) % 4 = 1 ∨ (c9 / 4) % 4 = 3 by omega) with e4 | e4 | e4
          · simp only [mm_okI, hy, e4] at hok; exact ⟨hok, Or.inl e4⟩
          · simp only [mm_okI, hy, e4] at hok; exact ⟨hok, Or.inr e4⟩
          · simp only [mm_okI, hy, e4] at hok; cases hok
        obtain ⟨hok, h04⟩ := hlk
        simp only [Bool.and_eq_true, decide_eq_true_eq] at hok
        obtain ⟨⟨rfl, hin1, hre⟩, hpl⟩ := hok
        have ha_ : mm_inv Y call a b 0 (c9 / 16) L K M k = some res := by rcases h04 with e4 | e4 <;> simpa only [mm_sem, e4] using h
        obtain ⟨p9, hp9, hb_⟩ := mi_bind ha_
        obtain ⟨as, rest0⟩ := p9
        obtain ⟨bs, e1, rfl, hlen⟩ := mm_pop_eq _ _ _ _ _ hp9
        rw [List.append_nil] at e1
        subst e1
        obtain ⟨o, rest, e2, hc_⟩ := mi_pR hb_
        simp only at e2
        subst e2
        obtain ⟨hi, hd_⟩ := mi_cond hc_
        rw [Bool.and_eq_true] at hi
        obtain ⟨v9, m9, hev, he_⟩ := mi_ans hd_
        refine sm_callI hx hb hml hown hlocks hrt hnm hTs hts hY hK hnest h16n hA0 hM0 hA hT hZ hN hO h5 hlay hcode hRc hRs hRf hRl hcall hy hpl hin1 hre (Nat.le_of_ble_eq_true hi.2) hlen hev ?_ hd (hk _ _ _ he_)
        rcases h04 with e4 | e4
        · simp only [mm_wds, hy, e4] at hws
          exact Or.inl hws
        · simp only [mm_wds, mm_nwd, hy, e4] at hws hns
          exact Or.inr ⟨hws, hns _ List.mem_cons_self⟩
  | _ => cases h
end SM
