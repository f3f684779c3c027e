/-! the law's own minister -/
abbrev mlL (x y : Int32) : mmL := [some (.ref 16), some (.int x), some (.int y), some (.ref 86), none]
abbrev mlA (x y : Int32) : List Value := [.ref 16, .int x, .int y, .ref 86]
def ml_cs : List (Nat × List Bool) := [(5, [true, true, true, true, true])]
theorem ml_row5 (n : Nat) (xs : Nat → Int32) (call : mmC) (j : mmG) (M : mmM) (x y : Int32) : mm_ex (mm_Y n xs) call ml_cs j 1200 ml_e (mlL x y) [] M = j 5 (mlL x y) [.int y, .int x, .ref 16, .int 0, .ref 86] M := by exact rfl
theorem ml_rowv (n : Nat) (xs : Nat → Int32) (N d : Nat) (j : mmG) (M : mmM) (x y : Int32) : mm_ex (mm_Y n xs) (mm_E n xs N d) [] j 1200 ml_v (mlL x y) [] M =
  ((mm_aI (mm_E n xs N d 107 [.ref 16, .int x, .int y] M)).bind fun p1 => some (some (.int (0 : Int32)), mm_wJ p1.2 86 0 p1.1.toInt64)) := by exact rfl
theorem ml_e0 : ∃ e0 r0, ml_e = e0 :: r0 ∧ e0.1 = 0 := ⟨_, _, rfl, rfl⟩
theorem ml_v0 : ∃ e0 r0, ml_v = e0 :: r0 ∧ e0.1 = 0 := ⟨_, _, rfl, rfl⟩
theorem ml_nr : ∀ e ∈ ml_e, mm_isRet e.2.1 = false := by decide +kernel
theorem ml_G7 : GoodIn ml_ws (wsV R_law 7 RX11 yX11_minister (mm_ww (yX11_minister, cX11_minister, 3, some .int))) := by
  have h1 : ∀ w ∈ wsV R_law 7 RX11 yX11_minister [], w ∈ lw_tbl ∧ goodWord w = true := by decide +kernel
  have h2 : ∀ w ∈ mm_ww (yX11_minister, cX11_minister, 3, some .int), w ∈ mm_gw := mm_ww_in (mm_code_ok 107 _ rfl).1
  have h3 : ∀ w ∈ wsV R_law 7 RX11 yX11_minister (mm_ww (yX11_minister, cX11_minister, 3, some .int)), w ∈ mm_gw := by
    intro w hw
    unfold wsV at hw h1
    rcases List.mem_append.mp hw with h | h
    · have := h1 w (List.mem_append_left _ h)
      exact List.mem_filter.mpr this
    · exact h2 w h
  exact mm_gw_in (fun w hw => List.mem_cons_of_mem _ hw) h3
theorem ml_dd : yX11_minister.cls = RX11 ∧ yX11_minister.cls ≠ "java/lang/invoke/MethodHandle" ∧ yX11_minister.cls ≠ "java/lang/invoke/VarHandle" ∧ (parseMethodDescriptor yX11_minister.desc).map (fun d => d.parameters.length) = some 2 := by decide +kernel
section ML
variable {l : Launch} {D : va_G} {cA : Nat → ClassId} {n : Nat} {xs : Nat → Int32} {N d : Nat} {M : mmM} {x y v : Int32}
theorem ml_ks (h : 87 ≤ M.2.1) : mm_ks M.2.1 (mlA x y) := by
  intro v hv
  simp only [List.mem_cons, List.not_mem_nil, or_false] at hv
  rcases hv with rfl | rfl | rfl | rfl
  · exact (by omega : 16 < M.2.1)
  · trivial
  · trivial
  · exact (by omega : 86 < M.2.1)
theorem ml_lc {ρ : Nat → Nat} {ls : Array Slot} (h : 87 ≤ M.2.1) (hl9 : lv_has ls 5 (lv_args 0 ((mlA x y).map (mm_tr ρ)))) : mm_lc ρ M.2.1 (mlL x y) ls 5 := by
  refine ⟨hl9.1, hl9.2.1, Nat.le_refl _, fun j x1 hx => ?_⟩
  have hx2 : (mm_ent 5 (mlA x y))[j]? = some (some x1) := hx
  obtain ⟨a1, a2⟩ := mm_fl_at (ρ := ρ) 0 (mlA x y) j x1 (mm_ent_at hx2)
  rw [Nat.zero_add] at a1
  exact ⟨hl9.2.2 _ a1, ml_ks h x1 a2⟩
set_option maxHeartbeats 4000000 in
theorem min_Lv (hw : mm_wf (mm_Y n xs) M) (hev : mm_E n xs N d 107 [.ref 16, .int x, .int y] M = some (some (.int v), M)) (ρ : Nat → Nat) (sz : Nat) :
    Met l yLm ml_ws (mm_rm (d + 1) (M.2.1 - M.2.1) (M.2.2.1 - M.2.2.1)) (mn_Pc D cA (mm_Y n xs) ρ M sz ((mlA x y).map (mm_tr ρ))) (mm_Qc D cA (mm_Y n xs) ρ M (some (.int 0)) (mm_wJ M 86 0 v.toInt64) sz) (M.2.1 - M.2.1) (M.2.2.1 - M.2.2.1) (va_A (mm_enc cA ρ (mm_Y n xs) M) sz) := by
  have h87 : 87 ≤ M.2.1 := hw.1
  refine va_MetW (cc := method_3_code) (maxL := 5) (ret := some .int) (hh := ml_hh) (by decide) rfl ?_
  intro p e s m args below meth c s₁ B hml hv
  obtain ⟨rfl, ⟨hsz, hP, hK, hD0, hT, hZ, hN, hO, h5⟩, hX⟩ := hv
  have hts := atoms_spec (ws := ml_ws) B.pre
  subst hsz
  have hD := hD0.self (sz := s.heap.size)
  have hl9 := lv_entry ((mlA x y).map (mm_tr ρ)) (n := 5) (by rw [mm_sl_len]; exact Nat.le_of_ble_eq_true rfl)
  rw [lg_entry_eq]
  generalize (lg_sl ((mlA x y).map (mm_tr ρ)) ++ List.replicate (5 - (lg_sl ((mlA x y).map (mm_tr ρ))).length) Slot.unset).toArray = ls at hl9 ⊢
  have hlc : mm_lc ρ M.2.1 (mlL x y) ls 5 := ml_lc h87 hl9
  obtain ⟨e0, r0, he0, hp0⟩ := ml_v0
  have hgd := mx_ex (l := l) (oc := 0) (res := (some (.int 0), mm_wJ M 86 0 v.toInt64)) (M0 := M) (R := mm_rm (d + 1) (M.2.1 - M.2.1) (M.2.2.1 - M.2.2.1)) (z0 := M.2.2.1) (Ts := ml_ws) (own := yLm.cls) (nm := yLm.name) (rt := some .int) (A := va_A (mm_enc cA ρ (mm_Y n xs) M) s.heap.size) (ρ0 := ρ) (e := e) (below := below) B.exec B.bytes hml (findClass_of_methodNamed B.named) B.notSynchronized B.returns (fun hnm => absurd hnm (by decide)) (fun w hw9 => List.mem_cons_of_mem _ hw9) hts (law_wfY n xs) hK mm_nest_ok (by omega) rfl rfl (fun q9 hq9 => Or.inr hq9) hT hZ hN hO h5 mm_lay_ok mm_code_ok (Nat.le_refl _) (Nat.le_refl _) (Nat.le_refl _) (Nat.le_refl _) (fun j as M v M' h1 h2 h3 h4 => mv_evF (law_wfY n xs) mm_nest_ok mm_lay_ok mm_code_ok mm_okF_ok d j as M v M' h1 h2 h3 h4) (cs := []) (j := fun _ _ _ _ => none) true (fun _ => rfl)
    (fun t2 L2 K2 M2 h2 => by cases h2) 1200 e0 r0 (fun e9 he9 => ⟨mm_okE_ren (y := (yLm, method_3_code, 5, some .int)) (ml_ok e9 (by rw [he0]; exact he9)), fun _ => rfl⟩) (mlL x y) [] M (by rw [← he0, ml_rowv, hev, ra_I, Option.bind_some])
  have hfin := (hgd hw (Nat.le_refl _) (Nat.le_refl _) (fun x hx => by cases hx) (fun i v hv => (hlc.2.2.2 i v hv).2)).2 ρ s.heap [] ls (fun _ _ => rfl) hP hD va_S.rf hlc
  rw [hp0] at hfin
  exact W.cs (cells' := M.2.1 + 0 - M.2.1) (slots' := M.2.2.1 - M.2.2.1) (by omega) (by omega) hfin
set_option maxHeartbeats 4000000 in
theorem min_Li (hl : l.stackTraces = false) (hd : 5 ≤ d) (hw : mm_wf (mm_Y n xs) M) (hev : ∀ j : mmG, mm_ex (mm_Y n xs) (mm_E n xs N d) mn_cs j 1200 mn_cd (mnL x y) [] M = j 17 (mnL x y) [] M) (ρ : Nat → Nat) (sz : Nat) :
    Met l yLm ml_ws (mm_rm (d + 2) 1 6) (mn_Pc D cA (mm_Y n xs) ρ M sz ((mlA x y).map (mm_tr ρ))) (mm_Qc D cA (mm_Y n xs) ρ M (some (.int 1)) M sz) 1 6 (va_A (mm_enc cA ρ (mm_Y n xs) M) sz) := by
  have h87 : 87 ≤ M.2.1 := hw.1
  refine va_MetW (cc := method_3_code) (maxL := 5) (ret := some .int) (hh := ml_hh) (by decide) rfl ?_
  intro p e s m args below meth c s₁ B hml hv
  obtain ⟨rfl, ⟨hsz, hP, hK, hD0, hT, hZ, hN, hO, h5⟩, hX⟩ := hv
  have hts := atoms_spec (ws := ml_ws) B.pre
  have htab := vx_table (x := yLm) B (hts ml_w List.mem_cons_self)
  subst hsz
  have hD := hD0.self (sz := s.heap.size)
  have hl9 := lv_entry ((mlA x y).map (mm_tr ρ)) (n := 5) (by rw [mm_sl_len]; exact Nat.le_of_ble_eq_true rfl)
  rw [lg_entry_eq]
  generalize (lg_sl ((mlA x y).map (mm_tr ρ)) ++ List.replicate (5 - (lg_sl ((mlA x y).map (mm_tr ρ))).length) Slot.unset).toArray = ls at hl9 ⊢
  have hlc : mm_lc ρ M.2.1 (mlL x y) ls 5 := ml_lc h87 hl9
  have hcat : mm_Gd p l e (mm_rm (d + 2) 1 6) s m ((mlA x y).map (mm_tr ρ)).toArray below meth c (MQ below (mm_Qc D cA (mm_Y n xs) ρ M (some (.int 1)) M s.heap.size) ((mlA x y).map (mm_tr ρ)).toArray s 1 6 (va_A (mm_enc cA ρ (mm_Y n xs) M) s.heap.size)) D cA (mm_Y n xs) (va_A (mm_enc cA ρ (mm_Y n xs) M) s.heap.size) 5 M.2.1 M.2.2.1 0 ρ M 5 (mlL x y) [.int y, .int x, .ref 16, .int 0, .ref 86] M := by
    intro a1 a2 a3 a4 a5
    refine ⟨⟨a1, Nat.le_refl _, Nat.le_refl _⟩, fun ρ1 H locs ls1 b1 b2 b3 b4 b5 => ?_⟩
    refine W.cs (cells' := 0) (slots' := 0) (by omega) (by omega) ?_
    have he := mm_enc_at (cA := cA) (ρ := ρ1) (Y := mm_Y n xs) (M := M) (a := 16) (by omega) (by omega)
    rw [mm_cell_obj (show mm_s (mm_Y n xs) M 16 = .inl 11 from rfl)] at he
    have hrec := va_recv hK b2 (show mm_cl[11]? = some (RX11, TX11, 19) from rfl) he
    have hWd := gq_wd (M := M) (nest := mm_nest) (n0 := M.2.1) (A := va_A (mm_enc cA ρ (mm_Y n xs) M) s.heap.size) mm_nest_ok (by omega) (fun q9 hq9 => Or.inr hq9) hK hT hZ hN hO h5 b1 b2 b3 b4
    have hsub : ∀ q, va_A (mm_enc cA ρ1 (mm_Y n xs) M) H.size q → va_A (mm_enc cA ρ (mm_Y n xs) M) s.heap.size q := by
      rintro q (⟨k, e9, hk⟩ | h)
      · exact b3.2 k _ hk
      · exact Or.inr (Nat.le_trans b4.1 h)
    have hroom : 2 * (F0 m 5 ls1 ([.int y, .int x, .ref (ρ1 16), .int 0, .ref (ρ1 86)] : List Value)).monitorRoom + (([.int 0, .ref (ρ1 86)] : List Value).map fun v => v.category).sum ≤ 8 := lv_room (rest := ([.int y, .int x, .ref (ρ1 16), .int 0, .ref (ρ1 86)] : List Value)) (m := m) (pc := 5) (ls := ls1) (Nat.le_of_ble_eq_true rfl)
    have hrun := vx_runV (e := e) (below := below) (meth := meth) (locs := locs) (cells := 0) (slots := 0) (R := mm_rm (d + 2) 1 6) (own := R_law) (C := RX11) (index := 7) (As := [.int x, .int y]) (b := ρ1 16) (rest := [.int 0, .ref (ρ1 86)]) (nL := 5) ⟨B.exec, B.bytes, hml, findClass_of_methodNamed B.named, hts⟩ (min_X11 (D := D) (cA := cA) hl hd hw hev ρ1 H.size) (cwV 2 hts ml_G7 rfl rfl rfl ml_dd ⟨Nat.le_refl _, by show 8 + (3 + 11) + (60 * (d + 1) + 200) ≤ 60 * (d + 2) + 200; omega⟩) ⟨mn_blind, hrec, fun U hU hW => ⟨rfl, hWd U hU hW, hX.mv b4 hsub hU hW⟩⟩ (g := F0 m 5 ls1 [.int y, .int x, .ref (ρ1 16), .int 0, .ref (ρ1 86)]) rfl rfl b5.1 rfl hroom ml_d5 ⟨Nat.le_refl _, Nat.le_refl _⟩
    intro T hT9 X9
    rcases hrun T hT9 X9 with ⟨v9, st₀, t, T', L9, h0, X', hL, e1, e2, hq, st⟩ | ⟨q, st₀, t, T', L9, E, ce, h0, X', hL, e1, e2, ⟨hE, ⟨ρ2, hρ, -, hP', hK', hD'⟩, hz, hk⟩, hce, hcv, hcl, st⟩
    · exact hq.elim
    · subst hE
      rw [h0] at hz hk
      have hsz9 : s.heap.size ≤ T'.heap.size := by rw [e1]; exact Nat.le_trans b4.1 hz
      have hkp : ∀ q9, q9 < s.heap.size → ¬ va_A (mm_enc cA ρ (mm_Y n xs) M) s.heap.size q9 → T'.heap[q9]? = s.heap[q9]? := by
        intro q9 q1 q2
        rw [e1, hk q9 (Nat.lt_of_lt_of_le q1 b4.1) (fun z => q2 (hsub q9 z))]
        exact b4.2.1 q9 q1 q2
      have hlo : ∀ z ∈ locs ++ L9, va_A (mm_enc cA ρ (mm_Y n xs) M) s.heap.size z.base := by
        intro z hz9
        rcases List.mem_append.mp hz9 with h | h
        · exact b4.2.2 z h
        · exact hsub _ (hL z h)
      have hk2 : W p l e (mm_rm (d + 2) 1 6) s m ((mlA x y).map (mm_tr ρ)).toArray below meth c T'.heap (locs ++ L9) (0 + 1) (0 + 6) (MQ below (mm_Qc D cA (mm_Y n xs) ρ M (some (.int 1)) M s.heap.size) ((mlA x y).map (mm_tr ρ)).toArray s 1 6 (va_A (mm_enc cA ρ (mm_Y n xs) M) s.heap.size)) (F0 m 13 ls1 [.ref q]) := by
        refine lv_astore (i := 4) (nL := 5) B.exec B.bytes ml_d13 (mm_lc_has b5) (by omega) rfl (fun ls2 _ => ?_)
        refine lv_iconst (v := 1) B.exec B.bytes ml_d15 (by decide) ?_
        exact W.iret (v := 1) B.exec B.bytes B.returns (fun t3 ht hW => ⟨⟨ρ2, fun b hb => (hρ b hb).trans (b1 b hb), rfl, by rw [ht, e1]; exact hP', va_K.moved hW.alike hK, hD'.weaken (fun _ q _ h => hsub q.1 h)⟩, by rw [ht]; exact hsz9, fun q9 q1 q2 => by rw [ht]; exact hkp q9 q1 q2⟩) hlo ml_d16 B.notSynchronized
      have hca := vx_catch (own := R_law) (name := NSE) (E := NSE) (ce := ce) (q := q) (pc := 5) (rest := [.int 0, .ref (ρ1 86)]) (ls := ls1) (findClass_of_methodNamed B.named) [] ⟨0, 10, 13, 13⟩ [] htab (fun z hz => by cases hz) (by decide) (by decide) (hts _ (List.mem_cons_of_mem _ ml_l)) (va_Nw.use rfl (hX.2.2.2 _ List.mem_cons_self)) (by rw [e1]; exact hce) hcv hcl hk2
      obtain ⟨t2, c1, c2⟩ := hca T' rfl X'
      exact ⟨t2, st.trans c1, c2⟩
  obtain ⟨e0, r0, he0, hp0⟩ := ml_e0
  have hgd := mx_ex (l := l) (oc := 0) (res := (none, M)) (M0 := M) (R := mm_rm (d + 2) 1 6) (z0 := M.2.2.1) (Ts := ml_ws) (own := yLm.cls) (nm := yLm.name) (rt := some .int) (A := va_A (mm_enc cA ρ (mm_Y n xs) M) s.heap.size) (ρ0 := ρ) (e := e) (below := below) (Q := MQ below (mm_Qc D cA (mm_Y n xs) ρ M (some (.int 1)) M s.heap.size) ((mlA x y).map (mm_tr ρ)).toArray s 1 6 (va_A (mm_enc cA ρ (mm_Y n xs) M) s.heap.size)) B.exec B.bytes hml (findClass_of_methodNamed B.named) B.notSynchronized B.returns (fun hnm => absurd hnm (by decide)) (fun w hw9 => List.mem_cons_of_mem _ hw9) hts (law_wfY n xs) hK mm_nest_ok (by omega) rfl rfl (fun q9 hq9 => Or.inr hq9) hT hZ hN hO h5 mm_lay_ok mm_code_ok (by show M.2.1 + 0 - M.2.1 ≤ 1; omega) (by show M.2.2.1 - M.2.2.1 ≤ 6; omega) (by show d + 1 ≤ d + 2; omega) (by show 60 * (d + 1) + 200 ≤ 60 * (d + 2) + 200; omega) (fun j as M v M' h1 h2 h3 h4 => mv_evF (N := N) (law_wfY n xs) mm_nest_ok mm_lay_ok mm_code_ok mm_okF_ok d j as M v M' h1 h2 h3 h4) (cs := ml_cs) (j := jT 5 (mlL x y) [.int y, .int x, .ref 16, .int 0, .ref 86]) false (fun h => by cases h)
    (fun t2 L2 K2 M2 h2 => by
      unfold jT at h2
      by_cases hc : t2 = 5 ∧ L2 = mlL x y ∧ K2 = [.int y, .int x, .ref 16, .int 0, .ref 86]
      · obtain ⟨rfl, rfl, rfl⟩ := hc
        rw [if_pos ⟨rfl, rfl, rfl⟩] at h2
        cases h2
        exact hcat
      · rw [if_neg hc] at h2
        cases h2) 1200 e0 r0 (fun e9 he9 => ⟨mm_okE_ren (y := (yLm, method_3_code, 5, some .int)) (ml_ok e9 (ml_in e9 (by rw [he0]; exact he9))), fun h => by rw [ml_nr e9 (by rw [he0]; exact he9)] at h; cases h⟩) (mlL x y) [] M (by rw [← he0]; exact (ml_row5 n xs _ _ M x y).trans (jT_at _ _ _ _))
  have hfin := (hgd hw (Nat.le_refl _) (Nat.le_refl _) (fun x hx => by cases hx) (fun i v hv => (hlc.2.2.2 i v hv).2)).2 ρ s.heap [] ls (fun _ _ => rfl) hP hD va_S.rf hlc
  have e00 : M.2.1 + 0 - M.2.1 = 0 := by omega
  rw [e00, Nat.sub_self, hp0] at hfin
  exact hfin
end ML
