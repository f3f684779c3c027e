theorem mm_pop_eq : ∀ (n : Nat) (K acc as rest : List Value), mm_pop n K acc = some (as, rest) → ∃ bs : List Value, as = bs ++ acc ∧ K = bs.reverse ++ rest ∧ bs.length = n
  | 0, K, acc, as, rest, h => by
    cases h
    exact ⟨[], rfl, rfl, rfl⟩
  | n + 1, [], acc, as, rest, h => by cases h
  | n + 1, v :: K, acc, as, rest, h => by
    change mm_pop n K (v :: acc) = _ at h
    obtain ⟨bs, h1, h2, h3⟩ := mm_pop_eq n K (v :: acc) as rest h
    refine ⟨bs ++ [v], by rw [h1]; simp, ?_, by simp [h3]⟩
    rw [h2]
    simp
theorem mm_cat_tr (ρ : Nat → Nat) (K : List Value) : (((K.map (mm_tr ρ)).map fun v => v.category).sum) = mm_cat K := by
  unfold mm_cat
  rw [List.map_map]
  congr 1
  apply List.map_congr_left
  intro v _
  cases v <;> rfl
section GQ
variable {p : Program} {l : Launch} {e : Env} {R : Room} {s : State} {m : MethodId} {args : Array Value} {below : List Frame} {meth : Method} {c : Code} {Q : State → Prop} {D : va_G} {cA : Nat → ClassId} {Y : mmY} {A : Nat → Prop} {nL n0 z0 oc : Nat} {ρ0 : Nat → Nat} {Mf : mmM} {cc : ByteArray} {pc : Nat} {L : mmL} {K r : List Value} {M : mmM}
variable {nest : List Cond} {M' : mmM} {v : Option Value} {rest K0 : List Value} {aa : Array Value}
/-- the world for a callee -/
theorem gq_wd {ρ : Nat → Nat} {H : Heap} {locs : List Loc} (hnest : ∀ w ∈ nest, mm_isN w = true) (h16n : 16 ≤ n0) (hA : ∀ q, s.heap.size ≤ q → A q) (hK : va_K D mm_cl (mm_tysA cA) s) (hT : mm_cnT Y ρ0 A s s.heap) (hZ : mm_cnZ ρ0 A s s.heap) (hN : mm_cnN nest s) (hO : va_AO RX0 s) (h5 : mm_c5 cA s)
    (hr : ∀ b, b < n0 → ρ b = ρ0 b) (hP : va_P D mm_cl (mm_enc cA ρ Y M) H) (hD : va_D A (mm_enc cA ρ Y M)) (hS : va_S A s.heap H locs) (U : State) (hU : U.heap = H) (hW : s.WarmedH U.vm) : mm_Wd D cA Y nest ρ M H.size U := by
  have hsub : ∀ q, va_A (mm_enc cA ρ Y M) H.size q → A q := by
    rintro q (⟨k, e9, hk⟩ | h)
    · exact hD.2 k _ hk
    · exact hA q (Nat.le_trans hS.1 h)
  refine ⟨by rw [hU], by rw [hU]; exact hP, va_K.moved hW.alike hK, hD.weaken (fun _ _ _ _ => trivial), ?_, ?_, fun w hw => mm_nw (hnest w hw) hW (hN w hw), va_AO.moved hW.alike hO, mm_c5_moved hW.alike h5⟩
  · intro t ty len ht hy
    rw [hU, hr t (by omega)]
    exact (((hT t ty len ht hy).kept (fun a h1 h2 => hS.2.1 a h1 h2)).narrow hsub).moved hW.alike
  · intro t q hq
    have ht : t < 9 := (List.getElem?_eq_some_iff.mp hq).1
    rw [hU, hr t (by omega)]
    exact (((hZ t q hq).kept (fun a h1 h2 => hS.2.1 a h1 h2)).narrow hsub).moved hW.alike
theorem gq_blind {ρ : Nat → Nat} {sz : Nat} {av : List Value} (hnest : ∀ w ∈ nest, mm_isN w = true) : FrameBlind (va_Pc av (mm_Wd D cA Y nest ρ M sz)) := by
  intro a U g mk h
  obtain ⟨q0, q1, qP, qK, qD, qT, qZ, qN, qO, q5⟩ := h
  refine ⟨q0, q1, qP, va_K.moved (u := U) (U := U.calling g mk a) (Vm.Alike.refl U.vm) qK, qD, ?_, ?_, ?_, va_AO.moved (u := U) (U := U.calling g mk a) (Vm.Alike.refl U.vm) qO, mm_c5_moved (u := U) (U := U.calling g mk a) (Vm.Alike.refl U.vm) q5⟩
  · intro t ty len ht hy
    exact (qT t ty len ht hy).moved (u := U) (U := U.calling g mk a) (Vm.Alike.refl U.vm)
  · intro t q hq
    exact (qZ t q hq).moved (u := U) (U := U.calling g mk a) (Vm.Alike.refl U.vm)
  · intro w hw
    exact mm_nw_same (s := U) (U := U.calling g mk a) (hnest w hw) rfl (qN w hw)
/-- a call that comes back, by whichever instruction -/
theorem gq_core (h16n : 16 ≤ n0) (hA : ∀ q, s.heap.size ≤ q → A q) (hRc : Mf.2.1 + oc - n0 ≤ R.cells) (hRs : Mf.2.2.1 - z0 ≤ R.slots) (hm1 : M.2.1 ≤ M'.2.1) (hm2 : M.2.2.1 ≤ M'.2.2.1) (hw1 : mm_wf Y M') (hv : ∀ x, v = some x → mm_okv M'.2.1 x) (hrest : ∀ x ∈ rest, x ∈ K0)
    (hrun : mm_ks M.2.1 K0 → ∀ (ρ : Nat → Nat) (H : Heap) (locs : List Loc) (ls : Array Slot), (∀ b, b < n0 → ρ b = ρ0 b) → va_P D mm_cl (mm_enc cA ρ Y M) H → va_D A (mm_enc cA ρ Y M) → va_S A s.heap H locs → mm_lc ρ M.2.1 L ls nL → M.2.1 + oc - n0 + (M'.2.1 - M.2.1) ≤ R.cells ∧ M.2.2.1 - z0 + (M'.2.2.1 - M.2.2.1) ≤ R.slots →
      va_Run p l e R s m args below meth c H locs (M.2.1 + oc - n0) (M.2.2.1 - z0) (M'.2.1 - M.2.1) (M'.2.2.1 - M.2.2.1) (F0 m pc ls (K0.map (mm_tr ρ))) (rest.map (mm_tr ρ)) (mm_Qc D cA Y ρ M v M' H.size aa) (va_A (mm_enc cA ρ Y M) H.size))
    (kk : mm_Gd p l e R s m args below meth c Q D cA Y A nL n0 z0 oc ρ0 Mf (pc + 3) L (v.toList ++ rest) M') : mm_Gd p l e R s m args below meth c Q D cA Y A nL n0 z0 oc ρ0 Mf pc L K0 M := by
  intro hw0 hn0 hz0 hk0 hl0
  have hkr : mm_ks M.2.1 rest := fun x hx1 => hk0 x (hrest x hx1)
  have hkv : mm_ks M'.2.1 (v.toList ++ rest) := by
    intro x hx1
    rcases List.mem_append.mp hx1 with h | h
    · exact hv x (by cases v with | none => cases h | some y => simp at h; rw [h])
    · exact mm_okv_le (hkr x h) hm1
  obtain ⟨h1, h2⟩ := kk hw1 (Nat.le_trans hn0 hm1) (Nat.le_trans hz0 hm2) hkv (fun i x hx1 => mm_okv_le (hl0 i x hx1) hm1)
  refine ⟨⟨h1.1, Nat.le_trans hm1 h1.2.1, Nat.le_trans hm2 h1.2.2⟩, fun ρ H locs ls hr hP hD hS hl => ?_⟩
  have t1 := h1.2.1
  have t2 := h1.2.2
  intro T hT X
  obtain ⟨v9, st₀, t, T', L9, h0, X', hL, e1, e2, ⟨⟨ρ', hρ, hv9, hP', hK', hD'⟩, hz, hk⟩, st⟩ := hrun hk0 ρ H locs ls hr hP hD hS hl ⟨by omega, by omega⟩ T hT X
  cases hv9
  rw [h0] at hz hk
  have hsub : ∀ q, va_A (mm_enc cA ρ Y M) H.size q → A q := by
    rintro q (⟨k, e9, hk9⟩ | h)
    · exact hD.2 k _ hk9
    · exact hA q (Nat.le_trans hS.1 h)
  have h3 := h2 ρ' T'.heap (locs ++ L9) ls (fun b hb9 => by rw [hρ b (by omega)]; exact hr b hb9) (by rw [e1]; exact hP') (hD'.weaken (fun _ q _ h => hsub q.1 h))
    ⟨Nat.le_trans hS.1 (by rw [e1]; exact hz), fun q a1 a2 => by rw [e1, hk q (Nat.lt_of_lt_of_le a1 hS.1) (fun z => a2 (hsub q z))]; exact hS.2.1 q a1 a2, fun q hq => by
      rcases List.mem_append.mp hq with h | h
      · exact hS.2.2 q h
      · exact hsub _ (hL q h)⟩ (mm_lc_le hl hm1 hρ)
  have hst : (v.toList ++ rest).map (mm_tr ρ') = (v.map (mm_tr ρ')).toList ++ rest.map (mm_tr ρ) := by
    rw [List.map_append, mm_ks_tr hkr hρ]
    cases v <;> rfl
  rw [hst] at h3
  have h4 := W.cs (cells := M.2.1 + oc - n0 + (M'.2.1 - M.2.1)) (slots := M.2.2.1 - z0 + (M'.2.2.1 - M.2.2.1)) (by omega) (by omega) h3
  obtain ⟨t9, a1, b1⟩ := h4 T' rfl X'
  exact ⟨t9, st t9 a1, b1⟩

theorem gq_V (hx : p.tables.exec = Jvm.exec) (hb : c.code = cc) (hnest : ∀ w ∈ nest, mm_isN w = true) (h16n : 16 ≤ n0) (hA : ∀ q, s.heap.size ≤ q → A q) (hK : va_K D mm_cl (mm_tysA cA) s) (hT : mm_cnT Y ρ0 A s s.heap) (hZ : mm_cnZ ρ0 A s s.heap) (hN : mm_cnN nest s) (hO : va_AO RX0 s) (h5 : mm_c5 cA s) (hRc : Mf.2.1 + oc - n0 ≤ R.cells) (hRs : Mf.2.2.1 - z0 ≤ R.slots) (hm1 : M.2.1 ≤ M'.2.1) (hm2 : M.2.2.1 ≤ M'.2.2.1) (hw1 : mm_wf Y M') (hv : ∀ x, v = some x → mm_okv M'.2.1 x) {Ts ws ws' : List Cond} {own C : String} {index n maxL : Nat} {y : MethodName} {bytes : ByteArray} {ret : Option FieldType} {rm : Room} (hml : c.maxLocals = nL) (hown : s.vm.findClass own = some m.cls) (hts : ∀ w ∈ Ts, w.before args s = true) {as : List Value} {o ci : Nat} {q : vw_C} (hM : ∀ (ρ : Nat → Nat) (sz : Nat), Met l y ws rm (va_Pc ((.ref o :: as).map (mm_tr ρ)) (mm_Wd D cA Y nest ρ M sz)) (mm_Qc D cA Y ρ M v M' sz) (M'.2.1 - M.2.1) (M'.2.2.1 - M.2.2.1) (va_A (mm_enc cA ρ Y M) sz)) (hw : ws = Cond.code y bytes maxL ret :: ws') (hrc : rm.cells = M'.2.1 - M.2.1) (hrs : rm.slots = M'.2.2.1 - M.2.2.1) (hR : rm.frames + 1 ≤ R.frames ∧ 8 + (maxL + 11) + rm.locals ≤ R.locals) (hcat : mm_cat rest ≤ 8) (hG : GoodIn Ts (wsV own index C y ws)) (hdd : y.cls = C ∧ y.cls ≠ "java/lang/invoke/MethodHandle" ∧ y.cls ≠ "java/lang/invoke/VarHandle" ∧ (parseMethodDescriptor y.desc).map (fun d => d.parameters.length) = some n) (hc : mm_cl[ci]? = some q) (hqC : q.1 = C) (ho : mm_s Y M o = .inl ci) (hY : mm_wfY Y) (hlen : as.length = n) (hd : decode cc pc = .ok (.invokevirtual index, 3)) (kk : mm_Gd p l e R s m args below meth c Q D cA Y A nL n0 z0 oc ρ0 Mf (pc + 3) L (v.toList ++ rest) M') : mm_Gd p l e R s m args below meth c Q D cA Y A nL n0 z0 oc ρ0 Mf pc L (as.reverse ++ .ref o :: rest) M := by
  refine gq_core (K0 := (as.reverse ++ .ref o :: rest)) (aa := #[]) h16n hA hRc hRs hm1 hm2 hw1 hv (fun x hx1 => List.mem_append_right _ (List.mem_cons_of_mem _ hx1)) (fun hk0 ρ H locs ls hr hP hD hS hl hf => ?_) kk
  have hon : o < M.2.1 := hk0 (.ref o) (List.mem_append_right _ List.mem_cons_self)
  have h16 : 16 ≤ o := mm_s_lt hY ho hc
  have he := mm_enc_at (cA := cA) (ρ := ρ) (Y := Y) h16 hon
  rw [mm_cell_obj ho] at he
  have hrec := va_recv hK hP hc he
  rw [hqC] at hrec
  have hst : (as.reverse ++ .ref o :: rest).map (mm_tr ρ) = (as.map (mm_tr ρ)).reverse ++ .ref (ρ o) :: rest.map (mm_tr ρ) := by
    rw [List.map_append, List.map_reverse]; rfl
  have hWd := gq_wd (M := M) (nest := nest) hnest h16n hA hK hT hZ hN hO h5 hr hP hD hS
  have hroom : 2 * (F0 m pc ls ((as.map (mm_tr ρ)).reverse ++ .ref (ρ o) :: rest.map (mm_tr ρ))).monitorRoom + ((rest.map (mm_tr ρ)).map fun v => v.category).sum ≤ 8 := lv_room (rest := ((as.map (mm_tr ρ)).reverse ++ .ref (ρ o) :: rest.map (mm_tr ρ))) (m := m) (pc := pc) (ls := ls) (by rw [mm_cat_tr]; exact hcat)
  rw [hst]
  exact va_runV (As := as.map (mm_tr ρ)) (rest := rest.map (mm_tr ρ)) ⟨hx, hb, hml, hown, hts⟩ (hM ρ H.size) (cwV n hts hG hw hrc hrs hdd hR) ⟨gq_blind hnest, hrec, fun U hU hW => ⟨rfl, hWd U hU hW⟩⟩ (g := F0 m pc ls ((as.map (mm_tr ρ)).reverse ++ .ref (ρ o) :: rest.map (mm_tr ρ))) rfl (by rw [List.length_map]; exact hlen) hl.1 rfl hroom hd hf
theorem gq_VN (hx : p.tables.exec = Jvm.exec) (hb : c.code = cc) (hnest : ∀ w ∈ nest, mm_isN w = true) (h16n : 16 ≤ n0) (hA : ∀ q, s.heap.size ≤ q → A q) (hK : va_K D mm_cl (mm_tysA cA) s) (hT : mm_cnT Y ρ0 A s s.heap) (hZ : mm_cnZ ρ0 A s s.heap) (hN : mm_cnN nest s) (hO : va_AO RX0 s) (h5 : mm_c5 cA s) (hRc : Mf.2.1 + oc - n0 ≤ R.cells) (hRs : Mf.2.2.1 - z0 ≤ R.slots) (hm1 : M.2.1 ≤ M'.2.1) (hm2 : M.2.2.1 ≤ M'.2.2.1) (hw1 : mm_wf Y M') (hv : ∀ x, v = some x → mm_okv M'.2.1 x) {Ts ws ws' : List Cond} {own C : String} {index n maxL : Nat} {y : MethodName} {bytes : ByteArray} {ret : Option FieldType} {rm : Room} (hml : c.maxLocals = nL) (hown : s.vm.findClass own = some m.cls) (hts : ∀ w ∈ Ts, w.before args s = true) {as : List Value} {o ci : Nat} {q : vw_C} (hM : ∀ (ρ : Nat → Nat) (sz : Nat), Met l y ws rm (va_Pc ((.ref o :: as).map (mm_tr ρ)) (mm_Wd D cA Y nest ρ M sz)) (mm_Qc D cA Y ρ M v M' sz) (M'.2.1 - M.2.1) (M'.2.2.1 - M.2.2.1) (va_A (mm_enc cA ρ Y M) sz)) (hw : ws = Cond.code y bytes maxL ret :: ws') (hrc : rm.cells = M'.2.1 - M.2.1) (hrs : rm.slots = M'.2.2.1 - M.2.2.1) (hR : rm.frames + 1 ≤ R.frames ∧ 8 + (maxL + 11) + rm.locals ≤ R.locals) (hcat : mm_cat rest ≤ 8) {host : String} (hG : GoodIn Ts ws) (hNl : va_Nw (.methodLinkNest own index y host) s) (hini : (Cond.initialized y.cls).before args s = true) (hi1 : (Cond.instanceMethod y).before args s = true) (hi2 : (Cond.selects C y y).before args s = true) (hdd : y.cls ≠ "java/lang/invoke/MethodHandle" ∧ y.cls ≠ "java/lang/invoke/VarHandle" ∧ (parseMethodDescriptor y.desc).map (fun d => d.parameters.length) = some n) (hc : mm_cl[ci]? = some q) (hqC : q.1 = C) (ho : mm_s Y M o = .inl ci) (hY : mm_wfY Y) (hlen : as.length = n) (hd : decode cc pc = .ok (.invokevirtual index, 3)) (kk : mm_Gd p l e R s m args below meth c Q D cA Y A nL n0 z0 oc ρ0 Mf (pc + 3) L (v.toList ++ rest) M') : mm_Gd p l e R s m args below meth c Q D cA Y A nL n0 z0 oc ρ0 Mf pc L (as.reverse ++ .ref o :: rest) M := by
  refine gq_core (K0 := (as.reverse ++ .ref o :: rest)) (aa := #[]) h16n hA hRc hRs hm1 hm2 hw1 hv (fun x hx1 => List.mem_append_right _ (List.mem_cons_of_mem _ hx1)) (fun hk0 ρ H locs ls hr hP hD hS hl hf => ?_) kk
  have hon : o < M.2.1 := hk0 (.ref o) (List.mem_append_right _ List.mem_cons_self)
  have h16 : 16 ≤ o := mm_s_lt hY ho hc
  have he := mm_enc_at (cA := cA) (ρ := ρ) (Y := Y) h16 hon
  rw [mm_cell_obj ho] at he
  have hrec := va_recv hK hP hc he
  rw [hqC] at hrec
  have hst : (as.reverse ++ .ref o :: rest).map (mm_tr ρ) = (as.map (mm_tr ρ)).reverse ++ .ref (ρ o) :: rest.map (mm_tr ρ) := by
    rw [List.map_append, List.map_reverse]; rfl
  have hWd := gq_wd (M := M) (nest := nest) hnest h16n hA hK hT hZ hN hO h5 hr hP hD hS
  have hroom : 2 * (F0 m pc ls ((as.map (mm_tr ρ)).reverse ++ .ref (ρ o) :: rest.map (mm_tr ρ))).monitorRoom + ((rest.map (mm_tr ρ)).map fun v => v.category).sum ≤ 8 := lv_room (rest := ((as.map (mm_tr ρ)).reverse ++ .ref (ρ o) :: rest.map (mm_tr ρ))) (m := m) (pc := pc) (ls := ls) (by rw [mm_cat_tr]; exact hcat)
  rw [hst]
  exact va_runVN (As := as.map (mm_tr ρ)) (rest := rest.map (mm_tr ρ)) ⟨hx, hb, hml, hown, hts⟩ (hM ρ H.size) ⟨va_cnB n hts hG hw hrc hrs hNl hini hdd hR, hi1, hi2⟩ ⟨gq_blind hnest, hrec, fun U hU hW => ⟨rfl, hWd U hU hW⟩⟩ (g := F0 m pc ls ((as.map (mm_tr ρ)).reverse ++ .ref (ρ o) :: rest.map (mm_tr ρ))) rfl (by rw [List.length_map]; exact hlen) hl.1 rfl hroom hd hf
theorem gq_S (hx : p.tables.exec = Jvm.exec) (hb : c.code = cc) (hnest : ∀ w ∈ nest, mm_isN w = true) (h16n : 16 ≤ n0) (hA : ∀ q, s.heap.size ≤ q → A q) (hK : va_K D mm_cl (mm_tysA cA) s) (hT : mm_cnT Y ρ0 A s s.heap) (hZ : mm_cnZ ρ0 A s s.heap) (hN : mm_cnN nest s) (hO : va_AO RX0 s) (h5 : mm_c5 cA s) (hRc : Mf.2.1 + oc - n0 ≤ R.cells) (hRs : Mf.2.2.1 - z0 ≤ R.slots) (hm1 : M.2.1 ≤ M'.2.1) (hm2 : M.2.2.1 ≤ M'.2.2.1) (hw1 : mm_wf Y M') (hv : ∀ x, v = some x → mm_okv M'.2.1 x) {Ts ws ws' : List Cond} {own C : String} {index n maxL : Nat} {y : MethodName} {bytes : ByteArray} {ret : Option FieldType} {rm : Room} (hml : c.maxLocals = nL) (hown : s.vm.findClass own = some m.cls) (hts : ∀ w ∈ Ts, w.before args s = true) {as : List Value}  (hM : ∀ (ρ : Nat → Nat) (sz : Nat), Met l y ws rm (va_Pc (as.map (mm_tr ρ)) (mm_Wd D cA Y nest ρ M sz)) (mm_Qc D cA Y ρ M v M' sz) (M'.2.1 - M.2.1) (M'.2.2.1 - M.2.2.1) (va_A (mm_enc cA ρ Y M) sz)) (hw : ws = Cond.code y bytes maxL ret :: ws') (hrc : rm.cells = M'.2.1 - M.2.1) (hrs : rm.slots = M'.2.2.1 - M.2.2.1) (hR : rm.frames + 1 ≤ R.frames ∧ 8 + (maxL + 11) + rm.locals ≤ R.locals) (hcat : mm_cat rest ≤ 8) (hG : GoodIn Ts (va_wsS own index y ws)) (hdd : y.cls ≠ "java/lang/invoke/MethodHandle" ∧ y.cls ≠ "java/lang/invoke/VarHandle" ∧ (parseMethodDescriptor y.desc).map (fun d => d.parameters.length) = some n)  (hlen : as.length = n) (hd : decode cc pc = .ok (.invokestatic index, 3)) (kk : mm_Gd p l e R s m args below meth c Q D cA Y A nL n0 z0 oc ρ0 Mf (pc + 3) L (v.toList ++ rest) M') : mm_Gd p l e R s m args below meth c Q D cA Y A nL n0 z0 oc ρ0 Mf pc L (as.reverse ++ rest) M := by
  refine gq_core (K0 := (as.reverse ++ rest)) (aa := #[]) h16n hA hRc hRs hm1 hm2 hw1 hv (fun x hx1 => List.mem_append_right _ hx1) (fun hk0 ρ H locs ls hr hP hD hS hl hf => ?_) kk
  have hst : (as.reverse ++ rest).map (mm_tr ρ) = (as.map (mm_tr ρ)).reverse ++ rest.map (mm_tr ρ) := by
    rw [List.map_append, List.map_reverse]
  have hWd := gq_wd (M := M) (nest := nest) hnest h16n hA hK hT hZ hN hO h5 hr hP hD hS
  have hroom : 2 * (F0 m pc ls ((as.map (mm_tr ρ)).reverse ++ rest.map (mm_tr ρ))).monitorRoom + ((rest.map (mm_tr ρ)).map fun v => v.category).sum ≤ 8 := lv_room (rest := ((as.map (mm_tr ρ)).reverse ++ rest.map (mm_tr ρ))) (m := m) (pc := pc) (ls := ls) (by rw [mm_cat_tr]; exact hcat)
  rw [hst]
  exact va_runS (As := as.map (mm_tr ρ)) (rest := rest.map (mm_tr ρ)) ⟨hx, hb, hml, hown, hts⟩ (hM ρ H.size) (va_cwS n hts hG hw hrc hrs hdd hR) ⟨gq_blind hnest, fun U hU hW => ⟨rfl, hWd U hU hW⟩⟩ (g := F0 m pc ls ((as.map (mm_tr ρ)).reverse ++ rest.map (mm_tr ρ))) rfl (by rw [List.length_map]; exact hlen) hl.1 rfl hroom hd hf
theorem gq_SN (hx : p.tables.exec = Jvm.exec) (hb : c.code = cc) (hnest : ∀ w ∈ nest, mm_isN w = true) (h16n : 16 ≤ n0) (hA : ∀ q, s.heap.size ≤ q → A q) (hK : va_K D mm_cl (mm_tysA cA) s) (hT : mm_cnT Y ρ0 A s s.heap) (hZ : mm_cnZ ρ0 A s s.heap) (hN : mm_cnN nest s) (hO : va_AO RX0 s) (h5 : mm_c5 cA s) (hRc : Mf.2.1 + oc - n0 ≤ R.cells) (hRs : Mf.2.2.1 - z0 ≤ R.slots) (hm1 : M.2.1 ≤ M'.2.1) (hm2 : M.2.2.1 ≤ M'.2.2.1) (hw1 : mm_wf Y M') (hv : ∀ x, v = some x → mm_okv M'.2.1 x) {Ts ws ws' : List Cond} {own C : String} {index n maxL : Nat} {y : MethodName} {bytes : ByteArray} {ret : Option FieldType} {rm : Room} (hml : c.maxLocals = nL) (hown : s.vm.findClass own = some m.cls) (hts : ∀ w ∈ Ts, w.before args s = true) {as : List Value}  (hM : ∀ (ρ : Nat → Nat) (sz : Nat), Met l y ws rm (va_Pc (as.map (mm_tr ρ)) (mm_Wd D cA Y nest ρ M sz)) (mm_Qc D cA Y ρ M v M' sz) (M'.2.1 - M.2.1) (M'.2.2.1 - M.2.2.1) (va_A (mm_enc cA ρ Y M) sz)) (hw : ws = Cond.code y bytes maxL ret :: ws') (hrc : rm.cells = M'.2.1 - M.2.1) (hrs : rm.slots = M'.2.2.1 - M.2.2.1) (hR : rm.frames + 1 ≤ R.frames ∧ 8 + (maxL + 11) + rm.locals ≤ R.locals) (hcat : mm_cat rest ≤ 8) {host : String} (hG : GoodIn Ts ws) (hNl : va_Nw (.methodLinkNest own index y host) s) (hini : (Cond.initialized y.cls).before args s = true) (hi1 : (Cond.static y).before args s = true) (hdd : y.cls ≠ "java/lang/invoke/MethodHandle" ∧ y.cls ≠ "java/lang/invoke/VarHandle" ∧ (parseMethodDescriptor y.desc).map (fun d => d.parameters.length) = some n)  (hlen : as.length = n) (hd : decode cc pc = .ok (.invokestatic index, 3)) (kk : mm_Gd p l e R s m args below meth c Q D cA Y A nL n0 z0 oc ρ0 Mf (pc + 3) L (v.toList ++ rest) M') : mm_Gd p l e R s m args below meth c Q D cA Y A nL n0 z0 oc ρ0 Mf pc L (as.reverse ++ rest) M := by
  refine gq_core (K0 := (as.reverse ++ rest)) (aa := #[]) h16n hA hRc hRs hm1 hm2 hw1 hv (fun x hx1 => List.mem_append_right _ hx1) (fun hk0 ρ H locs ls hr hP hD hS hl hf => ?_) kk
  have hst : (as.reverse ++ rest).map (mm_tr ρ) = (as.map (mm_tr ρ)).reverse ++ rest.map (mm_tr ρ) := by
    rw [List.map_append, List.map_reverse]
  have hWd := gq_wd (M := M) (nest := nest) hnest h16n hA hK hT hZ hN hO h5 hr hP hD hS
  have hroom : 2 * (F0 m pc ls ((as.map (mm_tr ρ)).reverse ++ rest.map (mm_tr ρ))).monitorRoom + ((rest.map (mm_tr ρ)).map fun v => v.category).sum ≤ 8 := lv_room (rest := ((as.map (mm_tr ρ)).reverse ++ rest.map (mm_tr ρ))) (m := m) (pc := pc) (ls := ls) (by rw [mm_cat_tr]; exact hcat)
  rw [hst]
  exact va_runSN (As := as.map (mm_tr ρ)) (rest := rest.map (mm_tr ρ)) ⟨hx, hb, hml, hown, hts⟩ (hM ρ H.size) ⟨va_cnB n hts hG hw hrc hrs hNl hini hdd hR, hi1, trivial⟩ ⟨gq_blind hnest, fun U hU hW => ⟨rfl, hWd U hU hW⟩⟩ (g := F0 m pc ls ((as.map (mm_tr ρ)).reverse ++ rest.map (mm_tr ρ))) rfl (by rw [List.length_map]; exact hlen) hl.1 rfl hroom hd hf
theorem gq_I (hx : p.tables.exec = Jvm.exec) (hb : c.code = cc) (hnest : ∀ w ∈ nest, mm_isN w = true) (h16n : 16 ≤ n0) (hA : ∀ q, s.heap.size ≤ q → A q) (hK : va_K D mm_cl (mm_tysA cA) s) (hT : mm_cnT Y ρ0 A s s.heap) (hZ : mm_cnZ ρ0 A s s.heap) (hN : mm_cnN nest s) (hO : va_AO RX0 s) (h5 : mm_c5 cA s) (hRc : Mf.2.1 + oc - n0 ≤ R.cells) (hRs : Mf.2.2.1 - z0 ≤ R.slots) (hm1 : M.2.1 ≤ M'.2.1) (hm2 : M.2.2.1 ≤ M'.2.2.1) (hw1 : mm_wf Y M') (hv : ∀ x, v = some x → mm_okv M'.2.1 x) {Ts ws ws' : List Cond} {own C : String} {index n maxL : Nat} {y : MethodName} {bytes : ByteArray} {ret : Option FieldType} {rm : Room} (hml : c.maxLocals = nL) (hown : s.vm.findClass own = some m.cls) (hts : ∀ w ∈ Ts, w.before args s = true) {as : List Value} {o ci : Nat} {q : vw_C} (hM : ∀ (ρ : Nat → Nat) (sz : Nat), Met l y ws rm (va_Pc ((.ref o :: as).map (mm_tr ρ)) (mm_Wd D cA Y nest ρ M sz)) (mm_Qc D cA Y ρ M v M' sz) (M'.2.1 - M.2.1) (M'.2.2.1 - M.2.2.1) (va_A (mm_enc cA ρ Y M) sz)) (hw : ws = Cond.code y bytes maxL ret :: ws') (hrc : rm.cells = M'.2.1 - M.2.1) (hrs : rm.slots = M'.2.2.1 - M.2.2.1) (hR : rm.frames + 1 ≤ R.frames ∧ 8 + (maxL + 11) + rm.locals ≤ R.locals) (hcat : mm_cat rest ≤ 8) (hG : GoodIn Ts ws) (hret : ret = none) (hin1 : y.name = "<init>") (hini : (Cond.initialized y.cls).before args s = true) (hl1 : (Cond.methodLink own index y).before args s = true) (hi1 : (Cond.instanceMethod y).before args s = true) (hdd : y.cls ≠ "java/lang/invoke/MethodHandle" ∧ y.cls ≠ "java/lang/invoke/VarHandle" ∧ (parseMethodDescriptor y.desc).map (fun d => d.parameters.length) = some n)  (hlen : as.length = n) (hd : decode cc pc = .ok (.invokespecial index, 3)) (kk : mm_Gd p l e R s m args below meth c Q D cA Y A nL n0 z0 oc ρ0 Mf (pc + 3) L (v.toList ++ rest) M') : mm_Gd p l e R s m args below meth c Q D cA Y A nL n0 z0 oc ρ0 Mf pc L (as.reverse ++ .ref o :: rest) M := by
  refine gq_core (K0 := (as.reverse ++ .ref o :: rest)) (aa := #[]) h16n hA hRc hRs hm1 hm2 hw1 hv (fun x hx1 => List.mem_append_right _ (List.mem_cons_of_mem _ hx1)) (fun hk0 ρ H locs ls hr hP hD hS hl hf => ?_) kk
  have hst : (as.reverse ++ .ref o :: rest).map (mm_tr ρ) = (as.map (mm_tr ρ)).reverse ++ .ref (ρ o) :: rest.map (mm_tr ρ) := by
    rw [List.map_append, List.map_reverse]; rfl
  have hWd := gq_wd (M := M) (nest := nest) hnest h16n hA hK hT hZ hN hO h5 hr hP hD hS
  have hroom : 2 * (F0 m pc ls ((as.map (mm_tr ρ)).reverse ++ .ref (ρ o) :: rest.map (mm_tr ρ))).monitorRoom + ((rest.map (mm_tr ρ)).map fun v => v.category).sum ≤ 8 := lv_room (rest := ((as.map (mm_tr ρ)).reverse ++ .ref (ρ o) :: rest.map (mm_tr ρ))) (m := m) (pc := pc) (ls := ls) (by rw [mm_cat_tr]; exact hcat)
  rw [hst]
  exact va_runI (As := as.map (mm_tr ρ)) (rest := rest.map (mm_tr ρ)) ⟨hx, hb, hml, hown, hts⟩ (hM ρ H.size) ⟨callB_of n hts hG (by rw [hw, hret]) hrc hrs hini hl1 hdd hR, hin1, hi1⟩ ⟨gq_blind hnest, fun U hU hW => ⟨rfl, hWd U hU hW⟩⟩ (g := F0 m pc ls ((as.map (mm_tr ρ)).reverse ++ .ref (ρ o) :: rest.map (mm_tr ρ))) rfl (by rw [List.length_map]; exact hlen) hl.1 rfl hroom hd hf
theorem gq_IN (hx : p.tables.exec = Jvm.exec) (hb : c.code = cc) (hnest : ∀ w ∈ nest, mm_isN w = true) (h16n : 16 ≤ n0) (hA : ∀ q, s.heap.size ≤ q → A q) (hK : va_K D mm_cl (mm_tysA cA) s) (hT : mm_cnT Y ρ0 A s s.heap) (hZ : mm_cnZ ρ0 A s s.heap) (hN : mm_cnN nest s) (hO : va_AO RX0 s) (h5 : mm_c5 cA s) (hRc : Mf.2.1 + oc - n0 ≤ R.cells) (hRs : Mf.2.2.1 - z0 ≤ R.slots) (hm1 : M.2.1 ≤ M'.2.1) (hm2 : M.2.2.1 ≤ M'.2.2.1) (hw1 : mm_wf Y M') (hv : ∀ x, v = some x → mm_okv M'.2.1 x) {Ts ws ws' : List Cond} {own C : String} {index n maxL : Nat} {y : MethodName} {bytes : ByteArray} {ret : Option FieldType} {rm : Room} (hml : c.maxLocals = nL) (hown : s.vm.findClass own = some m.cls) (hts : ∀ w ∈ Ts, w.before args s = true) {as : List Value} {o ci : Nat} {q : vw_C} (hM : ∀ (ρ : Nat → Nat) (sz : Nat), Met l y ws rm (va_Pc ((.ref o :: as).map (mm_tr ρ)) (mm_Wd D cA Y nest ρ M sz)) (mm_Qc D cA Y ρ M v M' sz) (M'.2.1 - M.2.1) (M'.2.2.1 - M.2.2.1) (va_A (mm_enc cA ρ Y M) sz)) (hw : ws = Cond.code y bytes maxL ret :: ws') (hrc : rm.cells = M'.2.1 - M.2.1) (hrs : rm.slots = M'.2.2.1 - M.2.2.1) (hR : rm.frames + 1 ≤ R.frames ∧ 8 + (maxL + 11) + rm.locals ≤ R.locals) (hcat : mm_cat rest ≤ 8) {host : String} (hG : GoodIn Ts ws) (hret : ret = none) (hin1 : y.name = "<init>") (hNl : va_Nw (.methodLinkNest own index y host) s) (hini : (Cond.initialized y.cls).before args s = true) (hi1 : (Cond.instanceMethod y).before args s = true) (hdd : y.cls ≠ "java/lang/invoke/MethodHandle" ∧ y.cls ≠ "java/lang/invoke/VarHandle" ∧ (parseMethodDescriptor y.desc).map (fun d => d.parameters.length) = some n)  (hlen : as.length = n) (hd : decode cc pc = .ok (.invokespecial index, 3)) (kk : mm_Gd p l e R s m args below meth c Q D cA Y A nL n0 z0 oc ρ0 Mf (pc + 3) L (v.toList ++ rest) M') : mm_Gd p l e R s m args below meth c Q D cA Y A nL n0 z0 oc ρ0 Mf pc L (as.reverse ++ .ref o :: rest) M := by
  refine gq_core (K0 := (as.reverse ++ .ref o :: rest)) (aa := #[]) h16n hA hRc hRs hm1 hm2 hw1 hv (fun x hx1 => List.mem_append_right _ (List.mem_cons_of_mem _ hx1)) (fun hk0 ρ H locs ls hr hP hD hS hl hf => ?_) kk
  have hst : (as.reverse ++ .ref o :: rest).map (mm_tr ρ) = (as.map (mm_tr ρ)).reverse ++ .ref (ρ o) :: rest.map (mm_tr ρ) := by
    rw [List.map_append, List.map_reverse]; rfl
  have hWd := gq_wd (M := M) (nest := nest) hnest h16n hA hK hT hZ hN hO h5 hr hP hD hS
  have hroom : 2 * (F0 m pc ls ((as.map (mm_tr ρ)).reverse ++ .ref (ρ o) :: rest.map (mm_tr ρ))).monitorRoom + ((rest.map (mm_tr ρ)).map fun v => v.category).sum ≤ 8 := lv_room (rest := ((as.map (mm_tr ρ)).reverse ++ .ref (ρ o) :: rest.map (mm_tr ρ))) (m := m) (pc := pc) (ls := ls) (by rw [mm_cat_tr]; exact hcat)
  rw [hst]
  exact va_runIN (As := as.map (mm_tr ρ)) (rest := rest.map (mm_tr ρ)) ⟨hx, hb, hml, hown, hts⟩ (hM ρ H.size) ⟨va_cnB n hts hG (by rw [hw, hret]) hrc hrs hNl hini hdd hR, hin1, hi1⟩ ⟨gq_blind hnest, fun U hU hW => ⟨rfl, hWd U hU hW⟩⟩ (g := F0 m pc ls ((as.map (mm_tr ρ)).reverse ++ .ref (ρ o) :: rest.map (mm_tr ρ))) rfl (by rw [List.length_map]; exact hlen) hl.1 rfl hroom hd hf
theorem gq_obj (hx : p.tables.exec = Jvm.exec) (hb : c.code = cc) (hml : c.maxLocals = nL) {own : String} {index o : Nat} (hown : s.vm.findClass own = some m.cls) (hl1 : (Cond.methodLink own index Lib.objectInit).before args s = true) (hi1 : (Cond.instanceMethod Lib.objectInit).before args s = true) (hco : (Cond.code Lib.objectInit ⟨#[0xb1]⟩ 1 none).before args s = true) (hf1 : 1 ≤ R.frames) (hf2 : 20 ≤ R.locals) (hcat : mm_cat rest ≤ 8) (hd : decode cc pc = .ok (.invokespecial index, 3)) (kk : mm_Gd p l e R s m args below meth c Q D cA Y A nL n0 z0 oc ρ0 Mf (pc + 3) L rest M) : mm_Gd p l e R s m args below meth c Q D cA Y A nL n0 z0 oc ρ0 Mf pc L (.ref o :: rest) M := by
  intro hw0 hn0 hz0 hk0 hl0
  obtain ⟨h1, h2⟩ := kk hw0 hn0 hz0 (mm_ks_tail hk0) hl0
  refine ⟨h1, fun ρ H locs ls hr hP hD hS hl => ?_⟩
  have hroom : 2 * (F0 m pc ls (.ref (ρ o) :: rest.map (mm_tr ρ))).monitorRoom + ((rest.map (mm_tr ρ)).map fun v => v.category).sum ≤ 8 := lv_room (rest := (.ref (ρ o) :: rest.map (mm_tr ρ))) (m := m) (pc := pc) (ls := ls) (by rw [mm_cat_tr]; exact hcat)
  exact W.objInit hx hb hown hl1 hi1 hco rfl (by rw [hml]; exact hl.1) rfl hd hf1 (Nat.le_trans (Nat.add_le_add_right hroom 12) hf2) (h2 ρ H locs ls hr hP hD hS hl)
theorem gq_copy (hx : p.tables.exec = Jvm.exec) (hb : c.code = cc) (hml : c.maxLocals = nL) (hY : mm_wfY Y) (hK : va_K D mm_cl (mm_tysA cA) s) {own : String} {index a b na nb : Nat} {n dp sp : Int32} (hown : s.vm.findClass own = some m.cls) (hl1 : (Cond.methodLink own index arraycopyName).before args s = true) (hnat : (Cond.native arraycopyName).before args s = true) (hstat : (Cond.static arraycopyName).before args s = true) (hini : (Cond.initialized "java/lang/System").before args s = true)
    (hb1 : mm_s Y M b = .inr (0, nb)) (ha1 : mm_s Y M a = .inr (0, na)) (hb16 : 16 ≤ b) (ha16 : 16 ≤ a) (h1 : ¬ sp < 0) (h2 : ¬ dp < 0) (h3 : ¬ n < 0) (h4 : sp.toNatClampNeg + n.toNatClampNeg ≤ nb) (h5 : dp.toNatClampNeg + n.toNatClampNeg ≤ na) (hf1 : 1 ≤ R.frames) (hf2 : 8 + (nativeFrameWords "java/lang/System" "arraycopy" 5 + 11) ≤ R.locals) (hcat : mm_cat rest ≤ 8) (hd : decode cc pc = .ok (.invokestatic index, 3)) (kk : mm_Gd p l e R s m args below meth c Q D cA Y A nL n0 z0 oc ρ0 Mf (pc + 3) L rest (mm_wR M a (va_cpy (M.2.2.2.1 b) (M.2.2.2.1 a) sp.toNatClampNeg dp.toNatClampNeg n.toNatClampNeg))) : mm_Gd p l e R s m args below meth c Q D cA Y A nL n0 z0 oc ρ0 Mf pc L (.int n :: .int dp :: .ref a :: .int sp :: .ref b :: rest) M := by
  intro hw0 hn0 hz0 hk0 hl0
  have hbn : b < M.2.1 := mm_ks_head (mm_ks_tail (mm_ks_tail (mm_ks_tail (mm_ks_tail hk0))))
  have han : a < M.2.1 := mm_ks_head (mm_ks_tail (mm_ks_tail hk0))
  have hw1 : mm_wf Y (mm_wR M a (va_cpy (M.2.2.2.1 b) (M.2.2.2.1 a) sp.toNatClampNeg dp.toNatClampNeg n.toNatClampNeg)) := hw0
  obtain ⟨g1, g2⟩ := kk hw1 hn0 hz0 (mm_ks_tail (mm_ks_tail (mm_ks_tail (mm_ks_tail (mm_ks_tail hk0))))) hl0
  refine ⟨g1, fun ρ H locs ls hr hP hD hS hl => ?_⟩
  have heb := mm_enc_at (cA := cA) (ρ := ρ) (Y := Y) (M := M) hb16 hbn
  rw [mm_cell_arr hb1, mm_ct0] at heb
  have hea := mm_enc_at (cA := cA) (ρ := ρ) (Y := Y) (M := M) ha16 han
  rw [mm_cell_arr ha1, mm_ct0] at hea
  have hcell : mm_cell cA ρ Y (mm_wR M a (va_cpy (M.2.2.2.1 b) (M.2.2.2.1 a) sp.toNatClampNeg dp.toNatClampNeg n.toNatClampNeg)) a = .inl (cA 0, na, .inl (va_cpy (M.2.2.2.1 b) (M.2.2.2.1 a) sp.toNatClampNeg dp.toNatClampNeg n.toNatClampNeg)) := by
    rw [mm_cell_arr (M := mm_wR M a _) ha1, mm_ct0]
    simp only [mm_row_same]
  have hset := mm_enc_set (cA := cA) (ρ := ρ) (Y := Y) (M := M) (M' := mm_wR M a (va_cpy (M.2.2.2.1 b) (M.2.2.2.1 a) sp.toNatClampNeg dp.toNatClampNeg n.toNatClampNeg)) ha16 han rfl hcell (fun b9 _ _ hb3 => mm_cell_wR hb3)
  exact va_copyi hx hb (by rw [hml]; exact hl.1.symm) hown hl1 hnat hstat hini hK hP hD hS (b - 16) (a - 16) 0 0 heb hea rfl rfl rfl h1 h2 h3 h4 h5 (fun _ _ => rfl) hf1 (by rw [mm_cat_tr]; omega) hd (fun H1 locs1 hP1 hD1 hS1 => g2 ρ H1 locs1 ls hr (by rw [← hset]; exact hP1) (by rw [← hset]; exact hD1) hS1 hl)
end GQ
