/-! the class's minister throws -/
section MX
variable {l : Launch} {D : va_G} {cA : Nat → ClassId} {n : Nat} {xs : Nat → Int32} {N d : Nat} {M : mmM} {x y : Int32}
/-- how the exception leaves the world -/
def mn_XC (D : va_G) (cA : Nat → ClassId) (Y : mmY) (ρ : Nat → Nat) (M : mmM) (sz : Nat) : String → State → State → Prop := fun E st t => E = NSE ∧ mm_Qc D cA Y ρ M none M sz #[] st (.returned none) t
def mn_Pc (D : va_G) (cA : Nat → ClassId) (Y : mmY) (ρ : Nat → Nat) (M : mmM) (sz : Nat) (av : List Value) : Array Value → State → Prop := va_Pc av (fun U => mm_Wd D cA Y mm_nest ρ M sz U ∧ EXW (va_A (mm_enc cA ρ Y M) sz) U)
theorem mn_blind {Y : mmY} {ρ : Nat → Nat} {sz : Nat} {av : List Value} : FrameBlind (mn_Pc D cA Y ρ M sz av) := by
  intro a U g mk h
  obtain ⟨h1, h2, h3⟩ := h
  obtain ⟨q0, q1⟩ := gq_blind (D := D) (cA := cA) (Y := Y) (M := M) (ρ := ρ) (sz := sz) (av := av) mm_nest_ok a U g mk ⟨h1, h2⟩
  exact ⟨q0, q1, h3.bl⟩
theorem mn_cd0 : ∃ e0 r0, mn_cd = e0 :: r0 ∧ e0.1 = 0 := ⟨_, _, rfl, rfl⟩
theorem mn_ok : ∀ e ∈ mn_cd, mm_okE mm_mth mm_nest (yX11_minister, cX11_minister, 3, some .int) e := fun e he => okp_of ka_X11_minister kb_X11_minister e (List.mem_of_mem_take he)
theorem mn_nr : ∀ e ∈ mn_cd, mm_isRet e.2.1 = false := by decide +kernel
set_option maxHeartbeats 4000000 in
theorem min_X11 (hl : l.stackTraces = false) (hd : 5 ≤ d) (hw : mm_wf (mm_Y n xs) M) (hev : ∀ j : mmG, mm_ex (mm_Y n xs) (mm_E n xs N d) mn_cs j 1200 mn_cd (mnL x y) [] M = j 17 (mnL x y) [] M) (ρ : Nat → Nat) (sz : Nat) :
    vx_Met l yX11_minister (mm_ww (yX11_minister, cX11_minister, 3, some .int)) (mm_rm (d + 1) 1 6) (mn_Pc D cA (mm_Y n xs) ρ M sz (([.ref 16, .int x, .int y] : List Value).map (mm_tr ρ))) (fun _ _ _ _ => False) (mn_XC D cA (mm_Y n xs) ρ M sz) 1 6 (va_A (mm_enc cA ρ (mm_Y n xs) M) sz) := by
  have h87 : 87 ≤ M.2.1 := hw.1
  refine vx_ofW (cc := cX11_minister) (maxL := 3) (ret := some .int) (by decide) rfl ?_
  intro p e s m args below meth c s₁ B hml htab hv
  obtain ⟨rfl, ⟨hsz, hP, hK, hD0, hT, hZ, hN, hO, h5⟩, hX⟩ := hv
  have hts := atoms_spec (ws := mm_ww (yX11_minister, cX11_minister, 3, some .int)) B.pre
  subst hsz
  have hD := hD0.self (sz := s.heap.size)
  have hl9 := lv_entry (([.ref 16, .int x, .int y] : List Value).map (mm_tr ρ)) (n := 3) (by rw [mm_sl_len]; exact Nat.le_refl 3)
  rw [lg_entry_eq]
  generalize (lg_sl (([.ref 16, .int x, .int y] : List Value).map (mm_tr ρ)) ++ List.replicate (3 - (lg_sl (([.ref 16, .int x, .int y] : List Value).map (mm_tr ρ))).length) Slot.unset).toArray = ls at hl9 ⊢
  have hks : mm_ks M.2.1 [.ref 16, .int x, .int y] := by
    intro v hv
    simp only [List.mem_cons, List.not_mem_nil, or_false] at hv
    rcases hv with rfl | rfl | rfl
    · exact (by omega : 16 < M.2.1)
    · trivial
    · trivial
  have hlc : mm_lc ρ M.2.1 (mnL x y) ls 3 := by
    refine ⟨hl9.1, hl9.2.1, Nat.le_refl _, fun j x1 hx => ?_⟩
    obtain ⟨a1, a2⟩ := mm_fl_at (ρ := ρ) 0 [.ref 16, .int x, .int y] j x1 hx
    rw [Nat.zero_add] at a1
    exact ⟨hl9.2.2 _ a1, hks x1 a2⟩
  have hthrow : mm_Gd p l e (mm_rm (d + 1) 1 6) s m (([.ref 16, .int x, .int y] : List Value).map (mm_tr ρ)).toArray below meth c (vx_MQ below (fun _ _ _ _ => False) (mn_XC D cA (mm_Y n xs) ρ M s.heap.size) (([.ref 16, .int x, .int y] : List Value).map (mm_tr ρ)).toArray s 1 6 (va_A (mm_enc cA ρ (mm_Y n xs) M) s.heap.size)) D cA (mm_Y n xs) (va_A (mm_enc cA ρ (mm_Y n xs) M) s.heap.size) 3 M.2.1 M.2.2.1 0 ρ M 17 (mnL x y) [] M := by
    intro a1 a2 a3 a4 a5
    refine ⟨⟨a1, Nat.le_refl _, Nat.le_refl _⟩, fun ρ1 H locs ls1 b1 b2 b3 b4 b5 => ?_⟩
    obtain ⟨x1, x2, ⟨sa, x3⟩, x4⟩ := hX
    refine W.cs (cells' := 0) (slots' := 0) (by omega) (by omega) ?_
    exact vx_throwSX (pc := 17) (rest := []) (A := va_A (mm_enc cA ρ (mm_Y n xs) M) s.heap.size) (own := RX11) (cls := NSE) (text := "no such minister") (names := ["java/lang/RuntimeException", "java/lang/Exception"]) (ik := 199) (is := 201) (ic := 203) (ix := 13) (sa := sa) (rx := prog_25_method_4_code) B.exec B.bytes hl mn_x0 mn_x1 mn_x2 mn_x5 (findClass_of_methodNamed B.named) (by decide +kernel) (by decide +kernel) (hts _ (List.mem_cons_of_mem _ mn_l1)) (hts _ (List.mem_cons_of_mem _ mn_l2)) x3
      (vx_hat (fun w hw => hts w (List.mem_cons_of_mem _ (mn_gd w hw))) mn_bad (fun w hw => va_Nw.use (mn_bt w hw) (x4 w hw))) mn_ot x1 x2 b4 (b5.1.trans hml.symm) mn_d17 mn_d20 mn_d21 mn_d23 mn_d26 (fun z hz => (htab z hz).elim)
      (by show 2 + 3 < d + 1; omega) (by show 0 + (13 * (2 + 1) + 43) ≤ 60 * (d + 1) + 200; omega) (Nat.le_refl _) (Nat.le_refl _) B.notSynchronized
      (fun t h1 h2 h3 => ⟨rfl, ⟨ρ1, b1, rfl, b2.kept (fun k q hk => h3 q.1 (b2 k q hk).lt), va_K.moved h1 hK, b3⟩, Nat.le_trans b4.1 h2, fun q q1 q2 => (h3 q (Nat.lt_of_lt_of_le q1 b4.1)).trans (b4.2.1 q q1 q2)⟩) b4.2.2 (Nat.le_refl _) (Nat.le_refl _)
  obtain ⟨e0, r0, he0, hp0⟩ := mn_cd0
  have hgd := mx_ex (oc := 0) (res := (none, M)) (M0 := M) (R := mm_rm (d + 1) 1 6) (z0 := M.2.2.1) (Ts := mm_ww (yX11_minister, cX11_minister, 3, some .int)) (own := yX11_minister.cls) (nm := yX11_minister.name) (rt := some .int) (A := va_A (mm_enc cA ρ (mm_Y n xs) M) s.heap.size) (ρ0 := ρ) (e := e) (below := below) (Q := vx_MQ below (fun _ _ _ _ => False) (mn_XC D cA (mm_Y n xs) ρ M s.heap.size) (([.ref 16, .int x, .int y] : List Value).map (mm_tr ρ)).toArray s 1 6 (va_A (mm_enc cA ρ (mm_Y n xs) M) s.heap.size)) B.exec B.bytes hml (findClass_of_methodNamed B.named) B.notSynchronized B.returns (fun hnm => absurd hnm (by decide)) (fun w hw9 => List.mem_cons_of_mem _ hw9) hts (law_wfY n xs) hK mm_nest_ok (by omega) rfl rfl (fun q9 hq9 => Or.inr hq9) hT hZ hN hO h5 mm_lay_ok mm_code_ok (by show M.2.1 + 0 - M.2.1 ≤ 1; omega) (by show M.2.2.1 - M.2.2.1 ≤ 6; omega) (Nat.le_refl _) (Nat.le_refl _) (fun j as M v M' h1 h2 h3 h4 => mv_evF (law_wfY n xs) mm_nest_ok mm_lay_ok mm_code_ok mm_okF_ok d j as M v M' h1 h2 h3 h4) (cs := mn_cs) (j := jT 17 (mnL x y) []) false (fun h => by cases h)
    (fun t2 L2 K2 M2 h2 => by
      unfold jT at h2
      by_cases hc : t2 = 17 ∧ L2 = mnL x y ∧ K2 = []
      · obtain ⟨rfl, rfl, rfl⟩ := hc
        rw [if_pos ⟨rfl, rfl, rfl⟩] at h2
        cases h2
        exact hthrow
      · rw [if_neg hc] at h2
        cases h2) 1200 e0 r0 (fun e9 he9 => ⟨mm_okE_ren (y := (yX11_minister, cX11_minister, 3, some .int)) (mn_ok e9 (by rw [he0]; exact he9)), fun h => by rw [mn_nr e9 (by rw [he0]; exact he9)] at h; cases h⟩) (mnL x y) [] M (by rw [← he0]; exact (hev _).trans (jT_at _ _ _ _))
  have hfin := (hgd hw (Nat.le_refl _) (Nat.le_refl _) (fun x hx => by cases hx) (fun i v hv => (hlc.2.2.2 i v hv).2)).2 ρ s.heap [] ls (fun _ _ => rfl) hP hD va_S.rf hlc
  have e00 : M.2.1 + 0 - M.2.1 = 0 := by omega
  rw [e00, Nat.sub_self, hp0] at hfin
  exact hfin
end MX
