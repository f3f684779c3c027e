/-! the law's case of the minister -/
theorem ml_dd4 : yLm.cls ≠ "java/lang/invoke/MethodHandle" ∧ yLm.cls ≠ "java/lang/invoke/VarHandle" ∧ (parseMethodDescriptor yLm.desc).map (fun d => d.parameters.length) = some 4 := by decide +kernel
theorem lg_cmp_s (x : Int64) : lg_cmp x x = 0 := by
  unfold lg_cmp
  simp
section LM
variable {p : Program} {l : Launch} {e : Env} {s : State} {m : MethodId} {b n : Nat} {xs : Nat → Int32} {below : List Frame} {meth : Method} {c : Code} {D : va_G} {cA : Nat → ClassId} {ρ0 : Nat → Nat}
set_option maxHeartbeats 4000000 in
theorem law_min {mc ms oc z0 oc2 z2 : Nat} {k x y i : Int32} {M M' : mmM} {rm : Room} (hC : LC p s m meth c b n xs D cA ρ0) (hX : EXW (va_A [] s.heap.size) s) (hw1 : mm_wf (mm_Y n xs) M') (hm1 : M'.2.1 = M.2.1) (hm2 : M'.2.2.1 = M.2.2.1) (hoc : oc2 = oc + mc) (hzz : z2 + ms = z0)
    (hM : ∀ (ρ : Nat → Nat) (sz : Nat), Met l yLm ml_ws rm (mn_Pc D cA (mm_Y n xs) ρ M sz ((mlA x y).map (mm_tr ρ))) (mm_Qc D cA (mm_Y n xs) ρ M (some (.int k)) M' sz) mc ms (va_A (mm_enc cA ρ (mm_Y n xs) M) sz)) (hrc : rm.cells = mc) (hrs : rm.slots = ms) (hR : rm.frames + 1 ≤ room_1.frames ∧ 8 + (5 + 11) + rm.locals ≤ room_1.locals) (hc9 : M.2.1 + oc - 16 + mc ≤ 601024) (hs9 : M.2.2.1 - z0 + ms ≤ 7293033)
    (kk : GdL p l e s m b below meth c D cA ρ0 (mm_Y n xs) oc2 z2 451 (Lr i) [.int k] M') : GdL p l e s m b below meth c D cA ρ0 (mm_Y n xs) oc z0 448 (Lr i) [.ref 86, .int y, .int x, .ref 16] M := by
  obtain ⟨hx, hb, hr9, hml, hown, hlocks, hts, hK, hT, hZ, hN, hO, h5⟩ := hC
  have hTY : mm_cnT (mm_Y n xs) ρ0 (va_A [] s.heap.size) s s.heap := fun t ty len ht hs => hT t ty len ht hs
  intro hw0 hn0 hz0 hk0 hl0
  refine ⟨⟨hw0, Nat.le_refl _, Nat.le_refl _⟩, fun ρ H locs ls hr hP hD hS hl => ?_⟩
  have hWd := gq_wd (M := M) (nest := mm_nest) (n0 := 16) (A := va_A [] s.heap.size) mm_nest_ok (Nat.le_refl _) (fun q9 hq9 => Or.inr hq9) hK hTY hZ hN hO h5 hr hP hD hS
  have hsub : ∀ q, va_A (mm_enc cA ρ (mm_Y n xs) M) H.size q → va_A [] s.heap.size q := by
    rintro q (⟨k, e9, hk⟩ | h)
    · exact hD.2 k _ hk
    · exact Or.inr (Nat.le_trans hS.1 h)
  have hroom : 2 * (F0 m 448 ls ([.ref (ρ 86), .int y, .int x, .ref (ρ 16)] : List Value)).monitorRoom + (([] : List Value).map fun v => v.category).sum ≤ 8 := lv_room (rest := ([.ref (ρ 86), .int y, .int x, .ref (ρ 16)] : List Value)) (m := m) (pc := 448) (ls := ls) (Nat.le_of_ble_eq_true rfl)
  have hrun := vx_runSW (e := e) (below := below) (meth := meth) (locs := locs) (cells := M.2.1 + oc - 16) (slots := M.2.2.1 - z0) (R := room_1) (own := R_law) (index := 46) (As := (mlA x y).map (mm_tr ρ)) (rest := []) (nL := 7) (hh := ml_hh) ⟨hx, hb, hml, hown, hts⟩ (hM ρ H.size) (vx_cwSW 4 hts ml_G rfl hrc hrs ml_dd4 hR) ⟨mn_blind, fun U hU hW => ⟨rfl, hWd U hU hW, hX.mv hS hsub hU hW⟩⟩ (g := F0 m 448 ls [.ref (ρ 86), .int y, .int x, .ref (ρ 16)]) rfl rfl hl.1 rfl hroom law_d448 ⟨hc9, hs9⟩
  intro T hT9 X9
  obtain ⟨v9, st₀, t, T', L9, h0, X', hL, e1, e2, ⟨⟨ρ', hρ, hv9, hP', hK', hD'⟩, hz, hk⟩, st⟩ := hrun T hT9 X9
  cases hv9
  rw [h0] at hz hk
  have h3 := (kk hw1 (by rw [hm1]; exact hn0) (by rw [hm2]; omega) (fun v hv => by rw [List.mem_singleton] at hv; subst hv; trivial) (by rw [hm1]; exact hl0)).2 ρ' T'.heap (locs ++ L9) ls (fun b hb9 => by rw [hρ b (by omega)]; exact hr b hb9) (by rw [e1]; exact hP') (hD'.weaken (fun _ q _ h => hsub q.1 h))
    ⟨Nat.le_trans hS.1 (by rw [e1]; exact hz), fun q a1 a2 => by rw [e1, hk q (Nat.lt_of_lt_of_le a1 hS.1) (fun z => a2 (hsub q z))]; exact hS.2.1 q a1 a2, fun q hq => by
      rcases List.mem_append.mp hq with h | h
      · exact hS.2.2 q h
      · exact hsub _ (hL q h)⟩ (by rw [hm1]; exact mm_lc_le hl (Nat.le_refl _) hρ)
  have h4 := W.cs (cells := M.2.1 + oc - 16 + mc) (slots := M.2.2.1 - z0 + ms) (by omega) (by omega) h3
  obtain ⟨t9, a1, b1⟩ := h4 T' rfl X'
  exact ⟨t9, st t9 a1, b1⟩
theorem law_MIN (hC : LC p s m meth c b n xs D cA ρ0) (hl : l.stackTraces = false) (hX : EXW (va_A [] s.heap.size) s) : MIN p l e s m b below meth c D cA ρ0 n xs 10000 := by
  intro oc z0 M i hT hI hoc hz0 hgo
  obtain ⟨i1, i2, -, -, -⟩ := hI
  obtain ⟨b1, b2, b3⟩ := hT.rm
  have b1 : M.2.1 ≤ 211 := b1
  have b2 : M.2.2.1 ≤ 101720 := b2
  refine law_seg hC (law_wfY n xs) (law_Yt n xs) (N := 10000) (d := 60) (t' := 448) (L' := Lr i) (K' := [.ref 86, .int (xs ((i + (2 : Int32)).toNatClampNeg)), .int (xs ((i + (1 : Int32)).toNatClampNeg)), .ref 16]) (M' := M) (by omega) (law_hat (by decide)) ?_ (by omega) (by omega) ?_
  · refine (uw_6 n xs 10000 60 _ M i).trans ?_
    rw [i1, i2, cond_true, cond_true]
    exact jT_at _ _ _ _
  · intro hw0 hn0 hz1 hk0 hl0
    rcases min_pure hT 0 (xs ((i + (1 : Int32)).toNatClampNeg)) (xs ((i + (2 : Int32)).toNatClampNeg)) with ⟨v, M3, e11, e12, h60, hJ, hT3⟩ | ⟨v, M3, e12, h60, hT3, hev⟩
    · obtain ⟨c1, c2, c3⟩ := hT3.rm
      have c1 : M3.2.1 ≤ 211 := c1
      have c2 : M3.2.2.1 ≤ 101720 := c2
      refine law_min (oc2 := oc) (z2 := z0) (mc := M.2.1 - M.2.1) (ms := M.2.2.1 - M.2.2.1) (k := 0) (M' := mm_wJ M 86 0 v.toInt64) hC hX hw0 rfl rfl (by omega) (by omega) (min_Lv (d := 60) hw0 e11) rfl rfl ⟨by show 60 + 1 + 1 ≤ 2048; omega, by show 8 + (5 + 11) + (60 * (60 + 1) + 200) ≤ 84000; omega⟩ (by omega) (by omega) ?_ hw0 hn0 hz1 hk0 hl0
      refine law_seg hC (law_wfY n xs) (law_Yt n xs) (N := 10000) (d := 60) (t' := 1593) (L' := Lr i) (K' := []) (M' := M3) (by omega) (law_hat (by decide)) ?_ (by omega) (by omega) (hgo M3 oc z0 hT3 (by omega) hz0)
      refine (uw_6b n xs 10000 60 _ (mm_wJ M 86 0 v.toInt64) i 0).trans ?_
      rw [i1, i2, cond_true, cond_true]
      rw [show mm_E n xs 10000 60 239 [.ref 60, .int (xs ((i + (1 : Int32)).toNatClampNeg)), .int (xs ((i + (2 : Int32)).toNatClampNeg))] (mm_wJ M 86 0 v.toInt64) = _ from e12, ra_I, Option.bind_some]
      dsimp only
      rw [u_X12_thrown n xs 10000 59 M3, ra_I, Option.bind_some]
      dsimp only
      rw [if_pos h60, if_pos rfl, hJ, lg_cmp_s, if_pos rfl]
      exact jT_at _ _ _ _
    · obtain ⟨c1, c2, c3⟩ := hT3.rm
      have c1 : M3.2.1 ≤ 211 := c1
      have c2 : M3.2.2.1 ≤ 101720 := c2
      refine law_min (oc2 := oc + 1) (z2 := z0 - 6) (mc := 1) (ms := 6) (k := 1) (M' := M) hC hX hw0 rfl rfl rfl (by omega) (min_Li (d := 60) hl (by omega) hw0 hev) rfl rfl ⟨by show 60 + 2 + 1 ≤ 2048; omega, by show 8 + (5 + 11) + (60 * (60 + 2) + 200) ≤ 84000; omega⟩ (by omega) (by omega) ?_ hw0 hn0 hz1 hk0 hl0
      refine law_seg hC (law_wfY n xs) (law_Yt n xs) (N := 10000) (d := 60) (t' := 1593) (L' := Lr i) (K' := []) (M' := M3) (by omega) (law_hat (by decide)) ?_ (by omega) (by omega) (hgo M3 (oc + 1) (z0 - 6) hT3 (by omega) (by omega))
      refine (uw_6b n xs 10000 60 _ M i 1).trans ?_
      rw [i1, i2, cond_true, cond_true]
      rw [show mm_E n xs 10000 60 239 [.ref 60, .int (xs ((i + (1 : Int32)).toNatClampNeg)), .int (xs ((i + (2 : Int32)).toNatClampNeg))] M = _ from e12, ra_I, Option.bind_some]
      dsimp only
      rw [u_X12_thrown n xs 10000 59 M3, ra_I, Option.bind_some]
      dsimp only
      rw [if_pos h60, if_neg (show ¬ (1 : Int32) = 0 by decide)]
      exact jT_at _ _ _ _
end LM
