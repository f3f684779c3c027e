/-! the law's walk, segment by segment -/
/-- what stays along the law's walk -/
def LC (p : Program) (s : State) (m : MethodId) (meth : Method) (c : Code) (b L : Nat) (xs : Nat → Int32) (D : va_G) (cA : Nat → ClassId) (ρ0 : Nat → Nat) : Prop :=
  p.tables.exec = Jvm.exec ∧ c.code = code ∧ meth.sig.returnType = ret ∧ c.maxLocals = 7 ∧ s.vm.findClass x.cls = some m.cls ∧ meth.locks = false ∧ (∀ w ∈ lw_tbl, w.before #[Value.ref b] s = true) ∧ va_K D mm_cl (mm_tysA cA) s ∧ mm_cnT (mm_Y0 L xs) ρ0 (va_A [] s.heap.size) s s.heap ∧ mm_cnZ ρ0 (va_A [] s.heap.size) s s.heap ∧ mm_cnN mm_nest s ∧ va_AO RX0 s ∧ mm_c5 cA s
/-- from here the law comes to its end -/
def GdL (p : Program) (l : Launch) (e : Env) (s : State) (m : MethodId) (b : Nat) (below : List Frame) (meth : Method) (c : Code) (D : va_G) (cA : Nat → ClassId) (ρ0 : Nat → Nat) (Y : mmY) (oc z0 pc : Nat) (L : mmL) (K : List Value) (M : mmM) : Prop :=
  mm_Gd p l e room_1 s m #[Value.ref b] below meth c (lw_Z below #[Value.ref b] s) D cA Y (va_A [] s.heap.size) 7 16 z0 oc ρ0 M pc L K M
noncomputable def jT (t' : Nat) (L' : mmL) (K' : List Value) : mmG := fun t L K M => @ite _ (t = t' ∧ L = L' ∧ K = K') (Classical.propDecidable _) (some (none, M)) none
theorem jT_at (t : Nat) (L : mmL) (K : List Value) (M : mmM) : jT t L K t L K M = some (none, M) := by
  unfold jT
  exact if_pos ⟨rfl, rfl, rfl⟩
theorem law_noret : ∀ e ∈ cd_law, mm_isRet e.2.1 = false := by decide +kernel
section LS
variable {p : Program} {l : Launch} {e : Env} {s : State} {m : MethodId} {b n : Nat} {xs : Nat → Int32} {below : List Frame} {meth : Method} {c : Code} {D : va_G} {cA : Nat → ClassId} {ρ0 : Nat → Nat} {Y : mmY} {oc z0 : Nat}
theorem law_seg (hC : LC p s m meth c b n xs D cA ρ0) (hY : mm_wfY Y) (hYt : ∀ t, t < 16 → Y.2.1 t = (mm_Y0 n xs).2.1 t ∧ Y.2.2.2 t = (mm_Y0 n xs).2.2.2 t) {N d t t' : Nat} {L L' : mmL} {K K' : List Value} {M M' : mmM} (hd : d ≤ 1000) (hat : ∃ e9 es, mm_at t cd_law = e9 :: es) (hev : mm_ex Y (mm_ev Y mm_prog N d) lw_cs (jT t' L' K') 1200 (mm_at t cd_law) L K M = some (none, M')) (hRc : M'.2.1 + oc - 16 ≤ 601024) (hRs : M'.2.2.1 - z0 ≤ 7293033) (hn : GdL p l e s m b below meth c D cA ρ0 Y oc z0 t' L' K' M') : GdL p l e s m b below meth c D cA ρ0 Y oc z0 t L K M := by
  obtain ⟨hx, hb, hr, hml, hown, hlocks, hts, hK, hT, hZ, hN, hO, h5⟩ := hC
  obtain ⟨e9, es, h9⟩ := hat
  have hTY : mm_cnT Y ρ0 (va_A [] s.heap.size) s s.heap := fun t ty len ht hs => by
    have := hT t ty len ht (by rw [← (hYt t ht).1]; exact hs)
    rw [(hYt t ht).2]
    exact this
  obtain ⟨m1, m2⟩ := mm_at_in (t := t) cd_law
  have hin : ∀ e ∈ e9 :: es, e ∈ cd_law := fun e he => m1 e (by rw [h9]; exact he)
  rw [h9] at hev
  have hok : ∀ e ∈ e9 :: es, mm_okE mm_mth mm_nest (⟨x.cls, x.name, ""⟩, code, 7, ret) e := fun e he => mm_okE_ren (y := (x, code, 7, ret)) (law_okE e (hin e he))
  have h := mx_ex (p := p) (l := l) (e := e) (R := room_1) (s := s) (m := m) (args := #[Value.ref b]) (below := below) (meth := meth) (c := c) (D := D) (cA := cA) (Y := Y) (A := va_A [] s.heap.size) (nL := 7) (n0 := 16) (z0 := z0) (oc := oc) (ρ0 := ρ0) (cc := code) (own := x.cls) (nm := x.name) (rt := ret) (Ts := lw_tbl) (nest := mm_nest) (mth := mm_mth) (d := d) (M0 := mm_M0) (Q := lw_Z below #[Value.ref b] s) (res := (none, M')) (call := mm_ev Y mm_prog N d) hx hb hml hown hlocks hr (fun h => absurd h (by decide)) (fun w hw => (List.mem_filter.mp hw).1) hts hY hK mm_nest_ok (Nat.le_refl _) rfl rfl (fun q hq => Or.inr hq) hTY hZ hN hO h5 mm_lay_ok mm_code_ok hRc hRs (by show d + 1 ≤ 2048; omega) (by show 60 * (d + 1) + 200 ≤ 84000; omega) (fun j as M v M' h1 h2 h3 h4 => mv_evF hY mm_nest_ok mm_lay_ok mm_code_ok mm_okF_ok d j as M v M' h1 h2 h3 h4) (cs := lw_cs) (j := jT t' L' K') false (fun h => by cases h)
    (fun t2 L2 K2 M2 h2 => by
      unfold jT at h2
      by_cases hc : t2 = t' ∧ L2 = L' ∧ K2 = K'
      · obtain ⟨rfl, rfl, rfl⟩ := hc
        rw [if_pos ⟨rfl, rfl, rfl⟩] at h2
        cases h2
        exact hn
      · rw [if_neg hc] at h2
        cases h2) 1200 e9 es (fun e he => ⟨hok e he, fun h => by rw [law_noret e (hin e he)] at h; cases h⟩) L K M hev
  have e9t : e9.1 = t := m2 e9 es h9
  rw [e9t] at h
  intro a1 a2 a3 a4 a5
  exact ⟨⟨a1, Nat.le_refl _, Nat.le_refl _⟩, (h a1 a2 a3 a4 a5).2⟩
theorem d_1599 : decode code 1599 = .ok (.iconst 1, 1) := by decide +kernel
theorem d_1600 : decode code 1600 = .ok (.ireturn, 1) := by decide +kernel
theorem law_end (hC : LC p s m meth c b n xs D cA ρ0) {L : mmL} {M : mmM} (hRc : M.2.1 + oc - 16 ≤ 601024) (hRs : M.2.2.1 - z0 ≤ 7293033) : GdL p l e s m b below meth c D cA ρ0 Y oc z0 1599 L [] M := by
  obtain ⟨hx, hb, hr, hml, hown, hlocks, hts, hK, hT, hZ, hN, hO, h5⟩ := hC
  intro a1 a2 a3 a4 a5
  refine ⟨⟨a1, Nat.le_refl _, Nat.le_refl _⟩, fun ρ H locs ls hr0 hP hD hS hl => ?_⟩
  refine lv_iconst (v := 1) hx hb d_1599 (by decide) ?_
  refine va_forget (fun q hq => ?_) ?_
  · rcases hS.2.2 q hq with ⟨k, e9, h⟩ | h
    · cases h
    · exact h
  refine W.widen (k := 601024) (n := 7293033) hRc hRs ?_
  exact lw_ret hx hb hr hlocks d_1600
end LS
