/-- an entry of the code is right -/
def mm_okE (mth : List mmT) (nest : List Cond) (y : mmT) (e : mmE) : Prop := decode y.2.1 e.1 = .ok (e.2.1, e.2.2.1) ∧ mm_okI mth y.1.cls y.1.name y.2.2.2 y.2.2.1 e.1 e.2.1 e.2.2.1 e.2.2.2.1 e.2.2.2.2.1 e.2.2.2.2.2.1 e.2.2.2.2.2.2.1 e.2.2.2.2.2.2.2 = true ∧ (∀ z ∈ mm_wds mth y.1.cls e.2.1 e.2.2.2.1 e.2.2.2.2.1 e.2.2.2.2.2.1 e.2.2.2.2.2.2.1, z ∈ mm_gw) ∧ ∀ z ∈ mm_nwd mth y.1.cls e.2.1 e.2.2.2.1 e.2.2.2.2.1 e.2.2.2.2.2.1, z ∈ nest
theorem mm_at_in {t : Nat} : ∀ (es : List mmE), (∀ e ∈ mm_at t es, e ∈ es) ∧ ∀ e r, mm_at t es = e :: r → e.1 = t
  | [] => ⟨fun e h => h, fun e r h => by cases h⟩
  | x :: es => by
    obtain ⟨h1, h2⟩ := mm_at_in es
    have hc : mm_at t (x :: es) = cond (Nat.beq x.1 t) (x :: es) (mm_at t es) := rfl
    rw [hc]
    cases hb : Nat.beq x.1 t with
    | true => exact ⟨fun e h => h, fun e r h => by cases h; exact Nat.eq_of_beq_eq_true hb⟩
    | false => exact ⟨fun e h => List.mem_cons_of_mem _ (h1 e h), h2⟩
theorem mx_nil {Y : mmY} {call : mmC} {cs : List (Nat × List Bool)} {j : mmG} {pf : Nat} {L : mmL} {K : List Value} {M : mmM} : mm_ex Y call cs j pf [] L K M = none := by cases pf <;> rfl
theorem mx_cons {Y : mmY} {call : mmC} {cs : List (Nat × List Bool)} {j : mmG} {pf : Nat} {e : mmE} {r : List mmE} {L : mmL} {K : List Value} {M : mmM} : mm_ex Y call cs j (pf + 1) (e :: r) L K M = mm_sem Y call e.2.1 e.2.2.2.1 e.2.2.2.2.1 e.2.2.2.2.2.1 e.2.2.2.2.2.2.1 e.2.2.2.2.2.2.2 L K M
        (fun L K M => match mm_cut cs (e.1 + e.2.2.1) with
          | some m => j (e.1 + e.2.2.1) (mm_msk m L) K M
          | none => mm_ex Y call cs j pf (mm_at (e.1 + e.2.2.1) r) L K M)
        (fun t L K M => match mm_cut cs t with
          | some m => j t (mm_msk m L) K M
          | none => mm_ex Y call cs j pf (mm_at t r) L K M) := rfl
section MX
variable {p : Program} {l : Launch} {e : Env} {R : Room} {s : State} {m : MethodId} {args : Array Value} {below : List Frame} {meth : Method} {c : Code} {D : va_G} {cA : Nat → ClassId} {Y : mmY} {A : Nat → Prop} {nL n0 z0 oc : Nat} {ρ0 : Nat → Nat} {cc : ByteArray} {pc : Nat} {L : mmL} {M : mmM}
variable {own nm : String} {rt : Option FieldType} {Ts nest : List Cond} {mth : List mmT} {d : Nat} {M0 : mmM} {Q : State → Prop} {res : mmR} {call : mmC}
theorem mx_msk {t : Nat} {k : List Bool} {K : List Value} (h : mm_Gd p l e R s m args below meth c Q D cA Y A nL n0 z0 oc ρ0 res.2 t (mm_msk k L) K M) : mm_Gd p l e R s m args below meth c Q D cA Y A nL n0 z0 oc ρ0 res.2 t L K M := by
  intro a1 a2 a3 a4 a5
  obtain ⟨h1, h2⟩ := h a1 a2 a3 a4 (mm_msk_lk k a5)
  exact ⟨h1, fun ρ H locs ls hr hP hD hS hl => h2 ρ H locs ls hr hP hD hS (mm_msk_ok k hl)⟩
theorem mx_ex (hx : p.tables.exec = Jvm.exec) (hb : c.code = cc) (hml : c.maxLocals = nL) (hown : s.vm.findClass own = some m.cls) (hlocks : meth.locks = false) (hrt : meth.sig.returnType = rt) (hnm : nm = "<init>" → meth.name = "<init>") (hTs : ∀ w ∈ mm_gw, w ∈ Ts) (hts : ∀ w ∈ Ts, w.before args s = true) (hY : mm_wfY Y) (hK : va_K D mm_cl (mm_tysA cA) s) (hnest : ∀ w ∈ nest, mm_isN w = true) (h16n : 16 ≤ n0) (hA0 : A = va_A (mm_enc cA ρ0 Y M0) s.heap.size) (hM0 : M0.2.1 = n0) (hA : ∀ q, s.heap.size ≤ q → A q) (hT : mm_cnT Y ρ0 A s s.heap) (hZ : mm_cnZ ρ0 A s s.heap) (hN : mm_cnN nest s) (hO : va_AO RX0 s) (h5 : mm_c5 cA s) (hlay : ∀ (ci : Nat) (q : vw_C), mm_cl[ci]? = some q → ∀ w ∈ u_ws q.1 q.2.1 q.2.2, w ∈ mm_gw) (hcode : ∀ (j : Nat) (y : mmT), mth[j]? = some y → Cond.code y.1 y.2.1 y.2.2.1 y.2.2.2 ∈ mm_gw ∧ y.2.2.1 ≤ 41) (hRc : res.2.2.1 + oc - n0 ≤ R.cells) (hRs : res.2.2.2.1 - z0 ≤ R.slots) (hRf : d + 1 ≤ R.frames) (hRl : 60 * (d + 1) + 200 ≤ R.locals) (hcall : ∀ (j : Nat) (as : List Value) (M : mmM) (v : Option Value) (M' : mmM), call j as M = some (v, M') → mm_wf Y M → 16 ≤ M.2.1 → mm_ks M.2.1 as → mm_Call l D cA Y nest mth d j as M v M') {cs : List (Nat × List Bool)} {j : mmG} (hQr : Bool) (hQe : hQr = true → Q = (MQ below (mm_Qc D cA Y ρ0 M0 res.1 res.2 s.heap.size) args s (res.2.2.1 + oc - n0) (res.2.2.2.1 - z0) A)) (hj : ∀ (t : Nat) (L : mmL) (K : List Value) (M : mmM), j t L K M = some res → mm_Gd p l e R s m args below meth c Q D cA Y A nL n0 z0 oc ρ0 res.2 t L K M) : ∀ (pf : Nat) (e9 : mmE) (es : List mmE), (∀ e ∈ e9 :: es, mm_okE mth nest (⟨own, nm, ""⟩, cc, nL, rt) e ∧ (mm_isRet e.2.1 = true → hQr = true)) → ∀ (L : mmL) (K : List Value) (M : mmM), mm_ex Y call cs j pf (e9 :: es) L K M = some res → mm_Gd p l e R s m args below meth c Q D cA Y A nL n0 z0 oc ρ0 res.2 e9.1 L K M := by
  intro pf
  induction pf with
  | zero => intro e9 es _ L K M h; cases h
  | succ pf ih =>
    intro e9 es hes L K M h
    obtain ⟨⟨o1, o2, o3, o4⟩, o5⟩ := hes e9 List.mem_cons_self
    have hgo : ∀ (t : Nat) (L' : mmL) (K' : List Value) (M' : mmM), (match mm_cut cs t with | some m => j t (mm_msk m L') K' M' | none => mm_ex Y call cs j pf (mm_at t es) L' K' M') = some res → mm_Gd p l e R s m args below meth c Q D cA Y A nL n0 z0 oc ρ0 res.2 t L' K' M' := by
      intro t L' K' M' h9
      cases hc : mm_cut cs t with
      | some k => rw [hc] at h9; exact mx_msk (hj _ _ _ _ h9)
      | none =>
        rw [hc] at h9
        simp only at h9
        obtain ⟨m1, m2⟩ := mm_at_in (t := t) es
        cases hm : mm_at t es with
        | nil => rw [hm, mx_nil] at h9; cases h9
        | cons e8 r8 =>
          rw [hm] at h9 m1
          rw [← m2 e8 r8 hm]
          exact ih e8 r8 (fun e he => hes e (List.mem_cons_of_mem _ (m1 e he))) _ _ _ h9
    rw [mx_cons] at h
    exact mm_sem_ok hx hb hml hown hlocks hrt hnm hTs hts hY hK hnest h16n hA0 hM0 hA hT hZ hN hO h5 hlay hcode hRc hRs hRf hRl hcall (fun h5 => hQe (o5 h5)) o1 o2 o3 o4 h (fun L' K' M' h9 => hgo _ _ _ _ h9) (fun t L' K' M' h9 => hgo t _ _ _ h9)
theorem mx_lp (hx : p.tables.exec = Jvm.exec) (hb : c.code = cc) (hml : c.maxLocals = nL) (hown : s.vm.findClass own = some m.cls) (hlocks : meth.locks = false) (hrt : meth.sig.returnType = rt) (hnm : nm = "<init>" → meth.name = "<init>") (hTs : ∀ w ∈ mm_gw, w ∈ Ts) (hts : ∀ w ∈ Ts, w.before args s = true) (hY : mm_wfY Y) (hK : va_K D mm_cl (mm_tysA cA) s) (hnest : ∀ w ∈ nest, mm_isN w = true) (h16n : 16 ≤ n0) (hA0 : A = va_A (mm_enc cA ρ0 Y M0) s.heap.size) (hM0 : M0.2.1 = n0) (hA : ∀ q, s.heap.size ≤ q → A q) (hT : mm_cnT Y ρ0 A s s.heap) (hZ : mm_cnZ ρ0 A s s.heap) (hN : mm_cnN nest s) (hO : va_AO RX0 s) (h5 : mm_c5 cA s) (hlay : ∀ (ci : Nat) (q : vw_C), mm_cl[ci]? = some q → ∀ w ∈ u_ws q.1 q.2.1 q.2.2, w ∈ mm_gw) (hcode : ∀ (j : Nat) (y : mmT), mth[j]? = some y → Cond.code y.1 y.2.1 y.2.2.1 y.2.2.2 ∈ mm_gw ∧ y.2.2.1 ≤ 41) (hRc : res.2.2.1 + oc - n0 ≤ R.cells) (hRs : res.2.2.2.1 - z0 ≤ R.slots) (hRf : d + 1 ≤ R.frames) (hRl : 60 * (d + 1) + 200 ≤ R.locals) (hcall : ∀ (j : Nat) (as : List Value) (M : mmM) (v : Option Value) (M' : mmM), call j as M = some (v, M') → mm_wf Y M → 16 ≤ M.2.1 → mm_ks M.2.1 as → mm_Call l D cA Y nest mth d j as M v M') {cs : List (Nat × List Bool)} {code : List mmE} (hQr : Bool) (hQe : hQr = true → Q = (MQ below (mm_Qc D cA Y ρ0 M0 res.1 res.2 s.heap.size) args s (res.2.2.1 + oc - n0) (res.2.2.2.1 - z0) A)) (hes : ∀ e ∈ code, mm_okE mth nest (⟨own, nm, ""⟩, cc, nL, rt) e ∧ (mm_isRet e.2.1 = true → hQr = true)) : ∀ (N t : Nat) (L : mmL) (K : List Value) (M : mmM), mm_lp Y call code cs N t L K M = some res → mm_Gd p l e R s m args below meth c Q D cA Y A nL n0 z0 oc ρ0 res.2 t L K M := by
  intro N
  induction N with
  | zero => intro t L K M h; cases h
  | succ N ih =>
    intro t L K M h
    have h9 : mm_ex Y call cs (mm_lp Y call code cs N) 1200 (mm_at t code) L K M = some res := h
    obtain ⟨m1, m2⟩ := mm_at_in (t := t) code
    cases hm : mm_at t code with
    | nil => rw [hm, mx_nil] at h9; cases h9
    | cons e8 r8 =>
      rw [hm] at h9 m1
      rw [← m2 e8 r8 hm]
      exact mx_ex hx hb hml hown hlocks hrt hnm hTs hts hY hK hnest h16n hA0 hM0 hA hT hZ hN hO h5 hlay hcode hRc hRs hRf hRl hcall hQr hQe ih 1200 e8 r8 (fun e he => hes e (m1 e he)) _ _ _ h9
end MX

theorem mxp_msk {Y : mmY} {res : mmR} {k : List Bool} {L : mmL} {K : List Value} {M : mmM} (h : mm_Pu Y res (mm_msk k L) K M) : mm_Pu Y res L K M := fun a1 a2 a3 a4 => h a1 a2 a3 (mm_msk_lk k a4)
theorem mxp_ex {Y : mmY} {call : mmC} {res : mmR} {mth : List mmT} {nest : List Cond} {y : mmT} (hY : mm_wfY Y) (hcall : ∀ (j : Nat) (as : List Value) (M : mmM) (v : Option Value) (M' : mmM), call j as M = some (v, M') → mm_wf Y M → 16 ≤ M.2.1 → mm_ks M.2.1 as → mm_Po Y (v, M') M.2.1 M.2.2.1) {cs : List (Nat × List Bool)} {j : mmG} (hj : ∀ (t : Nat) (L : mmL) (K : List Value) (M : mmM), j t L K M = some res → mm_Pu Y res L K M) : ∀ (pf : Nat) (es : List mmE), (∀ e ∈ es, mm_okE mth nest y e) → ∀ (L : mmL) (K : List Value) (M : mmM), mm_ex Y call cs j pf es L K M = some res → mm_Pu Y res L K M := by
  intro pf
  induction pf with
  | zero => intro es _ L K M h; cases h
  | succ pf ih =>
    intro es hes L K M h
    cases es with
    | nil => cases h
    | cons e9 es =>
      obtain ⟨o1, o2, o3, o4⟩ := hes e9 List.mem_cons_self
      have hgo : ∀ (t : Nat) (L' : mmL) (K' : List Value) (M' : mmM), (match mm_cut cs t with | some m => j t (mm_msk m L') K' M' | none => mm_ex Y call cs j pf (mm_at t es) L' K' M') = some res → mm_Pu Y res L' K' M' := by
        intro t L' K' M' h9
        cases hc : mm_cut cs t with
        | some k => rw [hc] at h9; exact mxp_msk (hj _ _ _ _ h9)
        | none =>
          rw [hc] at h9
          exact ih _ (fun e he => hes e (List.mem_cons_of_mem _ ((mm_at_in (t := t) es).1 e he))) _ _ _ h9
      rw [mx_cons] at h
      exact mp_sem hY hcall o2 h (fun L' K' M' h9 => hgo _ _ _ _ h9) (fun t L' K' M' h9 => hgo t _ _ _ h9)
theorem mxp_lp {Y : mmY} {call : mmC} {res : mmR} {mth : List mmT} {nest : List Cond} {y : mmT} (hY : mm_wfY Y) (hcall : ∀ (j : Nat) (as : List Value) (M : mmM) (v : Option Value) (M' : mmM), call j as M = some (v, M') → mm_wf Y M → 16 ≤ M.2.1 → mm_ks M.2.1 as → mm_Po Y (v, M') M.2.1 M.2.2.1) {cs : List (Nat × List Bool)} {code : List mmE} (hes : ∀ e ∈ code, mm_okE mth nest y e) : ∀ (N t : Nat) (L : mmL) (K : List Value) (M : mmM), mm_lp Y call code cs N t L K M = some res → mm_Pu Y res L K M := by
  intro N
  induction N with
  | zero => intro t L K M h; cases h
  | succ N ih =>
    intro t L K M h
    have h9 : mm_ex Y call cs (mm_lp Y call code cs N) 1200 (mm_at t code) L K M = some res := h
    exact mxp_ex hY hcall ih 1200 _ (fun e he => hes e ((mm_at_in (t := t) code).1 e he)) _ _ _ h9
theorem mm_fl_at {ρ : Nat → Nat} : ∀ (k : Nat) (as : List Value) (i : Nat) (v : Value), (mm_fl as)[i]? = some (some v) → (k + i, mm_tr ρ v) ∈ lv_args k (as.map (mm_tr ρ)) ∧ v ∈ as
  | k, [], i, v, h => by simp [mm_fl] at h
  | k, w :: as, i, v, h => by
    have key1 : ∀ (hc : ¬ w.category = 2) (hf : mm_fl (w :: as) = some w :: mm_fl as), (k + i, mm_tr ρ v) ∈ lv_args k ((w :: as).map (mm_tr ρ)) ∧ v ∈ w :: as := by
      intro hc hf
      rw [hf] at h
      have hcat : ¬ (mm_tr ρ w).category = 2 := by cases w <;> exact hc
      simp only [List.map_cons, lv_args, if_neg hcat]
      cases i with
      | zero => cases h; exact ⟨List.mem_cons_self, List.mem_cons_self⟩
      | succ i =>
        rw [List.getElem?_cons_succ] at h
        obtain ⟨a1, a2⟩ := mm_fl_at (ρ := ρ) (k + 1) as i v h
        exact ⟨List.mem_cons_of_mem _ (by rw [show k + (i + 1) = k + 1 + i by omega]; exact a1), List.mem_cons_of_mem _ a2⟩
    have key2 : ∀ (hc : w.category = 2) (hf : mm_fl (w :: as) = some w :: none :: mm_fl as), (k + i, mm_tr ρ v) ∈ lv_args k ((w :: as).map (mm_tr ρ)) ∧ v ∈ w :: as := by
      intro hc hf
      rw [hf] at h
      have hcat : (mm_tr ρ w).category = 2 := by cases w <;> exact hc
      simp only [List.map_cons, lv_args, if_pos hcat]
      match i, h with
      | 0, h => cases h; exact ⟨List.mem_cons_self, List.mem_cons_self⟩
      | 1, h => cases h
      | i + 2, h =>
        rw [List.getElem?_cons_succ, List.getElem?_cons_succ] at h
        obtain ⟨a1, a2⟩ := mm_fl_at (ρ := ρ) (k + 2) as i v h
        exact ⟨List.mem_cons_of_mem _ (by rw [show k + (i + 2) = k + 2 + i by omega]; exact a1), List.mem_cons_of_mem _ a2⟩
    cases w with
    | long x => exact key2 rfl rfl
    | double x => exact key2 rfl rfl
    | int x => exact key1 (by simp [Value.category]) rfl
    | float x => exact key1 (by simp [Value.category]) rfl
    | null => exact key1 (by simp [Value.category]) rfl
    | ref x => exact key1 (by simp [Value.category]) rfl
    | retAddr x => exact key1 (by simp [Value.category]) rfl
theorem mm_fl_len : ∀ (as : List Value), (mm_fl as).length = mm_cat as
  | [] => rfl
  | w :: as => by
    have ih := mm_fl_len as
    have hc : mm_cat (w :: as) = w.category + mm_cat as := by simp [mm_cat]
    rw [hc]
    cases w <;> simp [mm_fl, ih, Value.category] <;> omega
theorem mm_sl_len (ρ : Nat → Nat) : ∀ (as : List Value), (lg_sl (as.map (mm_tr ρ))).length = mm_cat as
  | [] => rfl
  | w :: as => by
    have ih := mm_sl_len ρ as
    have hc : mm_cat (w :: as) = w.category + mm_cat as := by simp [mm_cat]
    rw [hc]
    unfold lg_sl at ih ⊢
    rw [List.map_cons, List.flatMap_cons, List.length_append, ih]
    cases w <;> simp [mm_tr, Value.category]
theorem mm_ent_at {n : Nat} {as : List Value} {i : Nat} {v : Value} (h : (mm_ent n as)[i]? = some (some v)) : (mm_fl as)[i]? = some (some v) := by
  unfold mm_ent at h
  rw [List.getElem?_append] at h
  split at h
  · exact h
  · rw [List.getElem?_replicate] at h
    split at h <;> cases h
theorem mm_ent_lk {n k : Nat} {as : List Value} (h : mm_ks n as) : mm_lk n (mm_ent k as) := fun i v hv => h v (mm_fl_at (ρ := id) 0 as i v (mm_ent_at hv)).2
theorem mm_ent_len {n : Nat} {as : List Value} (h : mm_cat as ≤ n) : (mm_ent n as).length = n := by
  unfold mm_ent
  rw [List.length_append, List.length_replicate, mm_fl_len]
  omega
/-- a method and its code fit -/
def mm_okP (mth : List mmT) (nest : List Cond) (prog : List mmP) : Prop := ∀ (i : Nat) (q : mmP), prog[i]? = some q → ∃ y, mth[i]? = some y ∧ plainName y.1.cls = true ∧ q.2.2 = y.2.2.1 ∧ (∃ e r, q.1 = e :: r ∧ e.1 = 0) ∧ ∀ e ∈ q.1, mm_okE mth nest y e
theorem mm_okE_ren {mth : List mmT} {nest : List Cond} {y : mmT} {e : mmE} (h : mm_okE mth nest y e) : mm_okE mth nest (⟨y.1.cls, y.1.name, ""⟩, y.2.1, y.2.2.1, y.2.2.2) e := h
theorem mv_run {l : Launch} {D : va_G} {cA : Nat → ClassId} {Y : mmY} {nest : List Cond} {mth : List mmT} {prog : List mmP} {N d : Nat} {call : mmC} (hY : mm_wfY Y) (hnest : ∀ w ∈ nest, mm_isN w = true) (hlay : ∀ (ci : Nat) (q : vw_C), mm_cl[ci]? = some q → ∀ w ∈ u_ws q.1 q.2.1 q.2.2, w ∈ mm_gw) (hcode : ∀ (j : Nat) (y : mmT), mth[j]? = some y → Cond.code y.1 y.2.1 y.2.2.1 y.2.2.2 ∈ mm_gw ∧ y.2.2.1 ≤ 41) (hprog : mm_okP mth nest prog)
    (hcall : ∀ (j : Nat) (as : List Value) (M : mmM) (v : Option Value) (M' : mmM), call j as M = some (v, M') → mm_wf Y M → 16 ≤ M.2.1 → mm_ks M.2.1 as → mm_Call l D cA Y nest mth d j as M v M') {i : Nat} {as : List Value} {M M' : mmM} {v : Option Value} (h : mm_run Y prog N call i as M = some (v, M')) (hw : mm_wf Y M) (h16 : 16 ≤ M.2.1) (hks : mm_ks M.2.1 as) : mm_Call l D cA Y nest mth (d + 1) i as M v M' := by
  unfold mm_run at h
  cases hq : prog[i]? with
  | none => rw [hq] at h; cases h
  | some q =>
    rw [hq] at h
    simp only at h
    obtain ⟨hcat, h⟩ := mi_cond h
    have hcat := Nat.le_of_ble_eq_true hcat
    obtain ⟨y, hy, hpl, hnl, ⟨e0, r0, he0, hpc0⟩, hes⟩ := hprog i q hq
    have hpu : mm_Pu Y (v, M') (mm_ent q.2.2 as) [] M := mxp_ex hY (fun j a2 m2 v2 m3 h2 h3 h4 h5 => (hcall j a2 m2 v2 m3 h2 h3 h4 h5).1) (mxp_lp hY (fun j a2 m2 v2 m3 h2 h3 h4 h5 => (hcall j a2 m2 v2 m3 h2 h3 h4 h5).1) hes N) 1200 q.1 hes _ _ _ h
    obtain ⟨p1, p2, p3, p4⟩ := hpu hw h16 (fun x hx => by cases hx) (mm_ent_lk hks)
    refine ⟨⟨p1, p2, p3, p4⟩, fun y2 hy2 ρ sz => ?_⟩
    have e2 : y2 = y := Option.some.inj (hy2.symm.trans hy)
    subst e2
    refine Met.ofW (cc := y2.2.1) (maxL := y2.2.2.1) (ret := y2.2.2.2) hpl rfl ?_
    intro p e s m args below meth c s₁ B hml hv
    obtain ⟨rfl, hsz, hP, hK, hD0, hT, hZ, hN, hO, h5⟩ := hv
    have hts := atoms_spec (ws := mm_ww y2) B.pre
    subst hsz
    have hD := hD0.self (sz := s.heap.size)
    have hl := lv_entry (as.map (mm_tr ρ)) (n := y2.2.2.1) (by rw [mm_sl_len, ← hnl]; exact hcat)
    rw [lg_entry_eq]
    generalize (lg_sl (as.map (mm_tr ρ)) ++ List.replicate (y2.2.2.1 - (lg_sl (as.map (mm_tr ρ))).length) Slot.unset).toArray = ls at hl ⊢
    have hlc : mm_lc ρ M.2.1 (mm_ent q.2.2 as) ls y2.2.2.1 := by
      refine ⟨hl.1, hl.2.1, by rw [mm_ent_len hcat, hnl]; exact Nat.le_refl _, fun j x hx => ?_⟩
      obtain ⟨a1, a2⟩ := mm_fl_at (ρ := ρ) 0 as j x (mm_ent_at hx)
      rw [Nat.zero_add] at a1
      exact ⟨hl.2.2 _ a1, hks x a2⟩
    have hgd := mx_ex (oc := 0) (res := (v, M')) (M0 := M) (R := mm_rm (d + 1) (M'.2.1 - M.2.1) (M'.2.2.1 - M.2.2.1)) (z0 := M.2.2.1) (Ts := mm_ww y2) (own := y2.1.cls) (nm := y2.1.name) (rt := y2.2.2.2) (A := va_A (mm_enc cA ρ Y M) s.heap.size) (ρ0 := ρ) (e := e) (below := below) B.exec B.bytes hml (findClass_of_methodNamed B.named) B.notSynchronized B.returns (fun hnm => by rw [(name_of_methodNamed B.named B.method).1]; exact hnm) (fun w hw9 => List.mem_cons_of_mem _ hw9) hts hY hK hnest h16 rfl rfl (fun q9 hq9 => Or.inr hq9) hT hZ hN hO h5 hlay hcode (Nat.le_refl _) (Nat.le_refl _) (Nat.le_refl _) (Nat.le_refl _) hcall true (fun _ => rfl)
      (mx_lp (oc := 0) (res := (v, M')) (M0 := M) (R := mm_rm (d + 1) (M'.2.1 - M.2.1) (M'.2.2.1 - M.2.2.1)) (z0 := M.2.2.1) (Ts := mm_ww y2) (own := y2.1.cls) (nm := y2.1.name) (rt := y2.2.2.2) (A := va_A (mm_enc cA ρ Y M) s.heap.size) (ρ0 := ρ) (e := e) (below := below) B.exec B.bytes hml (findClass_of_methodNamed B.named) B.notSynchronized B.returns (fun hnm => by rw [(name_of_methodNamed B.named B.method).1]; exact hnm) (fun w hw9 => List.mem_cons_of_mem _ hw9) hts hY hK hnest h16 rfl rfl (fun q9 hq9 => Or.inr hq9) hT hZ hN hO h5 hlay hcode (Nat.le_refl _) (Nat.le_refl _) (Nat.le_refl _) (Nat.le_refl _) hcall true (fun _ => rfl) (fun e9 he9 => ⟨mm_okE_ren (hes e9 he9), fun _ => rfl⟩) N) 1200 e0 r0 (fun e9 he9 => ⟨mm_okE_ren (hes e9 (by rw [he0]; exact he9)), fun _ => rfl⟩) (mm_ent q.2.2 as) [] M (by rw [← he0]; exact h)
    have hfin := (hgd hw (Nat.le_refl _) (Nat.le_refl _) (fun x hx => by cases hx) (mm_ent_lk hks)).2 ρ s.heap [] ls (fun _ _ => rfl) hP hD va_S.rf hlc
    have e00 : M.2.1 + 0 - M.2.1 = 0 := by omega
    rw [e00, Nat.sub_self, hpc0] at hfin
    exact hfin
/-- WHAT THE SMALL MACHINE EVALUATES, THE REAL ONE RUNS -/
theorem mv_ev {l : Launch} {D : va_G} {cA : Nat → ClassId} {Y : mmY} {nest : List Cond} {mth : List mmT} {prog : List mmP} {N : Nat} (hY : mm_wfY Y) (hnest : ∀ w ∈ nest, mm_isN w = true) (hlay : ∀ (ci : Nat) (q : vw_C), mm_cl[ci]? = some q → ∀ w ∈ u_ws q.1 q.2.1 q.2.2, w ∈ mm_gw) (hcode : ∀ (j : Nat) (y : mmT), mth[j]? = some y → Cond.code y.1 y.2.1 y.2.2.1 y.2.2.2 ∈ mm_gw ∧ y.2.2.1 ≤ 41) (hprog : mm_okP mth nest prog) : ∀ (d i : Nat) (as : List Value) (M : mmM) (v : Option Value) (M' : mmM), mm_ev Y prog N d i as M = some (v, M') → mm_wf Y M → 16 ≤ M.2.1 → mm_ks M.2.1 as → mm_Call l D cA Y nest mth d i as M v M' := by
  intro d
  induction d with
  | zero => intro i as M v M' h; cases h
  | succ d ih => intro i as M v M' h hw h16 hks; exact mv_run hY hnest hlay hcode hprog ih h hw h16 hks

