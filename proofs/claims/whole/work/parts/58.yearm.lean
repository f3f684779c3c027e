/-! years of the model, and of both -/
section YM
variable {n : Nat} {xs : Nat → Int32} {N : Nat} {gv : Int32 → Int32 → Int32 → Int32 → Int32} {B M M' M0 Ma M1 Mb M2 W : mmM} {nc nm k p z h h0 h1 o : Nat} {bs rs : Nat → Nat → Int32} {Dk : Nat → Nat} {im : Bool} {dx : Int64 → Int64} {dv : Int64 → Int32 → Int32}
theorem L_dr34 (hd : DR dx dv) (d g : Nat) (h0 : 0 < nm) (h7 : nm ≤ 7) : ∀ (j i : Nat) (M : mmM), i + j = nm → mm_I M 60 26 = nI nm → ∃ M1, BM M M1 ∧ (mm_I M1 77, mm_J M1 60 33) = flR dx dv (mm_I M 76) nm j (mm_I M 77) (mm_J M 60 33) ∧ lp_X12_drawDay n xs N (d + 3) (g + j) 34 [some (.ref 60), none, none, some (.int (nI i)), none] [] M = lp_X12_drawDay n xs N (d + 3) g 34 [some (.ref 60), none, none, some (.int (nI nm)), none] [] M1 := by
  intro j
  induction j with
  | zero =>
    intro i M hij _
    have ei : i = nm := by omega
    subst ei
    exact ⟨M, BM.rf, rfl, rfl⟩
  | succ j ih =>
    intro i M hij h26
    obtain ⟨ev, hlt⟩ := drV_n hd (mm_J M 60 33) (j := nm) h0 (by omega)
    have step : ∀ M2, BM M M2 → mm_I M2 77 = (if cfR (mm_I M 76) (mm_I M 77) (drN dv (mm_J M 60 33) nm) = true then foldR (mm_I M 76) (drN dv (mm_J M 60 33) nm) (mm_I M 77) else mm_I M 77) → mm_J M2 60 33 = dx (mm_J M 60 33) → lp_X12_drawDay n xs N (d + 3) (g + j + 1) 34 [some (.ref 60), none, none, some (.int (nI i)), none] [] M = lp_X12_drawDay n xs N (d + 3) (g + j) 34 [some (.ref 60), none, none, some (.int (nI (i + 1))), none] [] M2 → ∃ M1, BM M M1 ∧ (mm_I M1 77, mm_J M1 60 33) = flR dx dv (mm_I M 76) nm (j + 1) (mm_I M 77) (mm_J M 60 33) ∧ lp_X12_drawDay n xs N (d + 3) (g + (j + 1)) 34 [some (.ref 60), none, none, some (.int (nI i)), none] [] M = lp_X12_drawDay n xs N (d + 3) g 34 [some (.ref 60), none, none, some (.int (nI nm)), none] [] M1 := by
      intro M2 b2 en ej el
      obtain ⟨M1, x1, x4, x5⟩ := ih (i + 1) M2 (by omega) (by rw [b2.I (by decide) (by decide) (by decide) (by decide)]; exact h26)
      refine ⟨M1, b2.tr x1, ?_, ?_⟩
      · rw [x4, b2.I (by decide) (by decide) (by decide) (by decide), en, ej]
        rfl
      · rw [← Nat.add_assoc, el, x5]
    cases hcf : cfR (mm_I M 76) (mm_I M 77) (drN dv (mm_J M 60 33) nm) with
    | false =>
      refine step (mm_wJ M 60 33 (dx (mm_J M 60 33))) BM.wJ (by rw [hcf]; try rfl) J_w ?_
      rw [lu_X12_drawDay_34, h26, if_neg (nI_ge (show i < nm by omega) (by omega)), E_draw hd (d + 2) M h0 (by omega), ev, ra_I, Option.bind_some]
      dsimp only
      rw [E_canM (d + 1) _ (m := drN dv (mm_J M 60 33) nm) (by omega), ra_I, Option.bind_some]
      dsimp only
      rw [show cfR (mm_I (mm_wJ M 60 33 (dx (mm_J M 60 33))) 76) (mm_I (mm_wJ M 60 33 (dx (mm_J M 60 33))) 77) (drN dv (mm_J M 60 33) nm) = false from hcf, if_pos (show mb false = 0 by decide), nI_1]
    | true =>
      obtain ⟨M2, e2, s2, r2⟩ := E_foldM (n := n) (xs := xs) (N := N) d (mm_wJ M 60 33 (dx (mm_J M 60 33))) (m := drN dv (mm_J M 60 33) nm) (by omega)
      refine step M2 (BM.wJ.tr s2.bm) (by rw [r2, if_pos hcf]) (by rw [show mm_J M2 = mm_J (mm_wJ M 60 33 (dx (mm_J M 60 33))) from s2.2.2.2.1]; exact J_w) ?_
      rw [lu_X12_drawDay_34, h26, if_neg (nI_ge (show i < nm by omega) (by omega)), E_draw hd (d + 2) M h0 (by omega), ev, ra_I, Option.bind_some]
      dsimp only
      rw [E_canM (d + 1) _ (m := drN dv (mm_J M 60 33) nm) (by omega), ra_I, Option.bind_some]
      dsimp only
      rw [show cfR (mm_I (mm_wJ M 60 33 (dx (mm_J M 60 33))) 76) (mm_I (mm_wJ M 60 33 (dx (mm_J M 60 33))) 77) (drN dv (mm_J M 60 33) nm) = true from hcf, if_neg (show ¬ mb true = 0 by decide), e2, ra_V, Option.bind_some, nI_1]
theorem E_drawM (hd : DR dx dv) (hRT : RT M nc nm) (hG : GM n xs N gv M) (hN : 1000 ≤ N) (d : Nat) (c0 : 0 < nc) (m0 : 0 < nm) {b dy : Nat → Int32} {D : Nat} (hZ : RZ (mm_I M 33) nc nm dy b (mm_I M 77) D) : ∃ M1, mm_E n xs N (d + 12) 256 [.ref 60] M = some (none, M1) ∧ BM M M1 ∧ (mm_I M1 77, mm_J M1 60 33) = ahR dx dv gv (mm_I M 75) (mm_I M 76) nc nm (mm_I M 60 30) (mm_I M 77) (mm_J M 60 33) := by
  have h4 := hRT.1
  have h7 := hRT.2.1
  have h25 := hRT.2.2.2.2.2.2.1
  have h26 := hRT.2.2.2.2.2.2.2.1
  obtain ⟨ev, hlt⟩ := drV_n hd (mm_J M 60 33) (j := nc) c0 (by omega)
  obtain ⟨ev2, hlt2⟩ := drV_n hd (dx (mm_J M 60 33)) (j := 10) (by omega) (by omega)
  obtain ⟨a1, a2, a3, a4, a5, a6, a7, a8, a9, a10, a11, a12, a13, a14, a15, a16, a17, a18, a19, a20⟩ := hZ.1
  have a20' := a20 _ hlt
  rw [← (a10 _ hlt).2] at a20'
  have e75 := hRT.2.2.2.2.2.2.2.2.2.1 _ 1 hlt (by omega)
  have b1 := hRT.2.2.2.2.2.2.2.2.2.2.2.2.2.1 _ hlt
  rw [← e75] at b1 a20'
  obtain ⟨el, ll⟩ := lf_eq b1 a20'
  have w9' := a19 _ hlt
  rw [← (a10 _ hlt).1] at w9'
  rw [← a1] at a11
  rw [← a2] at a12
  rw [← a5] at a15
  have elf : lfR (mm_I M 75) (mm_I M 77) (drN dv (mm_J M 60 33) nc) = ((mm_I M 75 (2 * drN dv (mm_J M 60 33) nc + 1)).toInt - (mm_I M 77 (4 + drN dv (mm_J M 60 33) nc)).toInt).toNat := rfl
  rw [← elf] at el ll
  obtain ⟨M1, e1, s1⟩ := E_strokesNow (n := n) (xs := xs) (N := N) (Mb := M) hG (by omega) d (drN dv (mm_J M 60 33) nc) (by omega) (min (drN dv (dx (mm_J M 60 33)) 10 + 5) (lfR (mm_I M 75) (mm_I M 77) (drN dv (mm_J M 60 33) nc))) (by omega) (mm_wJ (mm_wJ M 60 33 (dx (mm_J M 60 33))) 60 33 (dx (dx (mm_J M 60 33)))) ⟨fun _ _ _ => rfl, rfl, rfl⟩ (by unfold bd at w9' ⊢; show 0 ≤ (mm_I M 77 _).toInt ∧ (mm_I M 77 _).toInt ≤ 9; omega) a11 (by unfold bd at a12 ⊢; show 0 ≤ (mm_I M 77 9).toInt ∧ (mm_I M 77 9).toInt ≤ 200; omega) a15
  have r1 : mm_I M1 77 = nwj gv (drN dv (mm_J M 60 33) nc) (min (drN dv (dx (mm_J M 60 33)) 10 + 5) (lfR (mm_I M 75) (mm_I M 77) (drN dv (mm_J M 60 33) nc))) (mm_I M 77) := s1.2.2.2.2.2.2
  have J1 : mm_J M1 60 33 = dx (dx (mm_J M 60 33)) := by
    rw [show mm_J M1 = mm_J (mm_wJ (mm_wJ M 60 33 (dx (mm_J M 60 33))) 60 33 (dx (dx (mm_J M 60 33)))) from s1.2.2.2.1]
    exact J_w
  have B1 : BM M M1 := (BM.wJ.tr BM.wJ).tr s1.bm
  have k26 : mm_I M1 60 26 = nI nm := by rw [B1.I (by decide) (by decide) (by decide) (by decide)]; exact h26
  obtain ⟨g, hg⟩ : ∃ g, N = g + 1 + nm := ⟨N - 1 - nm, by omega⟩
  obtain ⟨M2, b2, cw, e2⟩ := L_dr34 (n := n) (xs := xs) (N := N) hd (d + 8) (g + 1) m0 h7 nm 0 M1 (by omega) k26
  rw [← hg, nI_0] at e2
  rw [B1.I (by decide) (by decide) (by decide) (by decide), r1, J1] at cw
  have cw1 : mm_I M2 77 = (flR dx dv (mm_I M 76) nm nm (nwj gv (drN dv (mm_J M 60 33) nc) (min (drN dv (dx (mm_J M 60 33)) 10 + 5) (lfR (mm_I M 75) (mm_I M 77) (drN dv (mm_J M 60 33) nc))) (mm_I M 77)) (dx (dx (mm_J M 60 33)))).1 := congrArg Prod.fst cw
  have cw2 : mm_J M2 60 33 = (flR dx dv (mm_I M 76) nm nm (nwj gv (drN dv (mm_J M 60 33) nc) (min (drN dv (dx (mm_J M 60 33)) 10 + 5) (lfR (mm_I M 75) (mm_I M 77) (drN dv (mm_J M 60 33) nc))) (mm_I M 77)) (dx (dx (mm_J M 60 33)))).2 := congrArg Prod.snd cw
  have B2 : BM M (mm_wJ M2 60 33 (dx (mm_J M2 60 33))) := (B1.tr b2).tr BM.wJ
  have m30 : mm_I M2 60 30 = mm_I M 60 30 := by rw [(B1.tr b2).I (by decide) (by decide) (by decide) (by decide)]
  have l26 : mm_I M2 60 26 = nI nm := by rw [(B1.tr b2).I (by decide) (by decide) (by decide) (by decide)]; exact h26
  have hah : ahR dx dv gv (mm_I M 75) (mm_I M 76) nc nm (mm_I M 60 30) (mm_I M 77) (mm_J M 60 33) = (if mm_I M 60 30 ≤ dv (mm_J M2 60 33) 10 then mm_I M2 77 else doorR (mm_I M2 77), dx (mm_J M2 60 33)) := by
    unfold ahR
    dsimp only
    rw [← cw1, ← cw2]
  have go : ∀ M3, (mm_I M 60 30 ≤ dv (mm_J M2 60 33) 10 → M3 = mm_wJ M2 60 33 (dx (mm_J M2 60 33))) → (¬ mm_I M 60 30 ≤ dv (mm_J M2 60 33) 10 → mm_E n xs N (d + 11) 233 [.ref 60] (mm_wJ M2 60 33 (dx (mm_J M2 60 33))) = some (none, M3)) → mm_E n xs N (d + 12) 256 [.ref 60] M = some (none, M3) := by
    intro M3 g2 g3
    rw [u_X12_drawDay, h25, E_draw hd (d + 10) M c0 (by omega), ev, ra_I, Option.bind_some]
    dsimp only
    rw [show (10 : Int32) = nI 10 from rfl, E_draw hd (d + 10) _ (show 0 < 10 by omega) (by omega), J_w, ev2, ra_I, Option.bind_some]
    dsimp only
    (rw [E_leftOf (d + 10) _ (drN dv (mm_J M 60 33) nc) (by omega), ra_I, Option.bind_some]; dsimp only)
    rw [show mm_I (mm_wJ (mm_wJ M 60 33 (dx (mm_J M 60 33))) 60 33 (dx (dx (mm_J M 60 33)))) 75 (2 * drN dv (mm_J M 60 33) nc + 1) - mm_I (mm_wJ (mm_wJ M 60 33 (dx (mm_J M 60 33))) 60 33 (dx (dx (mm_J M 60 33)))) 77 (4 + drN dv (mm_J M 60 33) nc) = nI (lfR (mm_I M 75) (mm_I M 77) (drN dv (mm_J M 60 33) nc)) from el, show nI (drN dv (dx (mm_J M 60 33)) 10) + 5 = nI (drN dv (dx (mm_J M 60 33)) 10 + 5) from nI_add _ 5]
    (rw [E_min (d + 10) _ _ _, ra_I, Option.bind_some]; dsimp only)
    rw [i_min_nI (by omega) (by omega), e1, ra_V, Option.bind_some]
    rw [e2, lu_X12_drawDay_34, l26, if_pos (nI_le (Nat.le_refl _) (by omega)), show (10 : Int32) = nI 10 from rfl, E_draw hd (d + 10) _ (show 0 < 10 by omega) (by omega), ra_I, Option.bind_some]
    dsimp only
    rw [show mm_I (mm_wJ M2 60 33 (dx (mm_J M2 60 33))) 60 30 = mm_I M 60 30 from m30]
    by_cases q : mm_I M 60 30 ≤ dv (mm_J M2 60 33) 10
    · rw [if_pos (show mm_I M 60 30 ≤ dv (mm_J M2 60 33) (nI 10) from q), ← g2 q]
    · rw [if_neg (show ¬ mm_I M 60 30 ≤ dv (mm_J M2 60 33) (nI 10) from q), g3 q, ra_V, Option.bind_some]
  by_cases q : mm_I M 60 30 ≤ dv (mm_J M2 60 33) 10
  · refine ⟨_, go _ (fun _ => rfl) (fun w => absurd q w), B2, ?_⟩
    rw [hah, if_pos q, J_w]
  · obtain ⟨M3, e3, s3, r3⟩ := E_doorM (n := n) (xs := xs) (N := N) (d + 9) (mm_wJ M2 60 33 (dx (mm_J M2 60 33)))
    refine ⟨M3, go M3 (fun w => absurd w q) (fun _ => e3), B2.tr s3.bm, ?_⟩
    rw [hah, if_neg q, show mm_J M3 = mm_J (mm_wJ M2 60 33 (dx (mm_J M2 60 33))) from s3.2.2.2.1, J_w, r3]
/-- both stay alike -/
theorem RZ.wh {dy b r : Nat → Int32} {D c t : Nat} (hR : RT M nc nm) (hc : c < nc) (h : RZ (mm_I M 33) nc nm dy b r D) (ht : t ≤ lfB (mm_I M 33) b c) : RZ (mm_I M 33) nc nm dy (whB gv c t b) (nwj gv c t r) D := by
  have h4 := hR.1
  have a20 := h.1.2.2.2.2.2.2.2.2.2.2.2.2.2.2.2.2.2.2.2 c hc
  have en := hR.2.2.2.2.2.2.2.2.2.2.2.2.2.1
  have en' := en c hc
  unfold bd at en'
  unfold lfB at ht
  have q := ws_RB (gv := gv) (nm := nm) (c := c) (t := t) (lf := 0) (b' := whB gv c t b) (r' := nwj gv c t r) h4 hc h.1 h.2.2.2.2 en (by omega) (by omega) rfl rfl (fun x x0 x1 x8 => by unfold whB; rw [if_neg x0, if_neg x1, if_neg (by omega)]) (fun x hx => by
      unfold whB
      rw [if_neg (by omega), if_neg (by omega)]
      by_cases q : x = c
      · rw [if_pos q, if_pos (by omega)]
      · rw [if_neg q, if_neg (by omega)]) (fun x hx => by unfold whB; rw [if_neg (by omega), if_neg (by omega), if_neg (by omega)]) rfl
  refine ⟨q.1, h.2.1.hi (fun x hx => nwj_hi (by omega) hx t r), ?_, h.2.2.2.1, q.2⟩
  rw [whB_8 (by omega)]
  exact h.2.2.1
theorem RZ.fl (hd : DR dx dv) {dy : Nat → Int32} {D : Nat} (hR : RT M nc nm) (m0 : 0 < nm) : ∀ (j : Nat) (b r : Nat → Int32) (x : Int64), RZ (mm_I M 33) nc nm dy b r D → RZ (mm_I M 33) nc nm dy (flB dx dv (mm_I M 33) nm j b x).1 (flR dx dv (mm_I M 76) nm j r x).1 D ∧ (flB dx dv (mm_I M 33) nm j b x).2 = (flR dx dv (mm_I M 76) nm j r x).2
  | 0, b, r, x, h => ⟨h, rfl⟩
  | j + 1, b, r, x, h => by
    have h7 := hR.2.1
    obtain ⟨-, hlt⟩ := drV_n hd x (j := nm) m0 (by omega)
    have e := cfN_cfR hR hlt h
    show RZ (mm_I M 33) nc nm dy (flB dx dv (mm_I M 33) nm j (if cfN (mm_I M 33) b (drN dv x nm) = true then foldB (mm_I M 33) (drN dv x nm) b else b) (dx x)).1 (flR dx dv (mm_I M 76) nm j (if cfR (mm_I M 76) r (drN dv x nm) = true then foldR (mm_I M 76) (drN dv x nm) r else r) (dx x)).1 D ∧ _ = (flR dx dv (mm_I M 76) nm j (if cfR (mm_I M 76) r (drN dv x nm) = true then foldR (mm_I M 76) (drN dv x nm) r else r) (dx x)).2
    rw [e]
    cases hcf : cfN (mm_I M 33) b (drN dv x nm) with
    | false =>
      have := RZ.fl hd hR m0 j b r (dx x) h
      refine ⟨this.1, ?_⟩
      rw [← show _ = (flR dx dv (mm_I M 76) nm j (if false = true then foldR (mm_I M 76) (drN dv x nm) r else r) (dx x)).2 from this.2]
      show (flB dx dv (mm_I M 33) nm j (if cfN (mm_I M 33) b (drN dv x nm) = true then foldB (mm_I M 33) (drN dv x nm) b else b) (dx x)).2 = _
      rw [hcf]
      rfl
    | true =>
      have := RZ.fl hd hR m0 j _ _ (dx x) (RZ.fold hR hlt h)
      refine ⟨this.1, ?_⟩
      rw [← show _ = (flR dx dv (mm_I M 76) nm j (if true = true then foldR (mm_I M 76) (drN dv x nm) r else r) (dx x)).2 from this.2]
      show (flB dx dv (mm_I M 33) nm j (if cfN (mm_I M 33) b (drN dv x nm) = true then foldB (mm_I M 33) (drN dv x nm) b else b) (dx x)).2 = _
      rw [hcf]
      rfl
theorem RZ.ah (hd : DR dx dv) {dy b r : Nat → Int32} {D : Nat} {q : Int32} {x : Int64} (hR : RT M nc nm) (c0 : 0 < nc) (m0 : 0 < nm) (h : RZ (mm_I M 33) nc nm dy b r D) : RZ (mm_I M 33) nc nm dy (ahB dx dv gv (mm_I M 33) nc nm q b x).1 (ahR dx dv gv (mm_I M 75) (mm_I M 76) nc nm q r x).1 D ∧ (ahB dx dv gv (mm_I M 33) nc nm q b x).2 = (ahR dx dv gv (mm_I M 75) (mm_I M 76) nc nm q r x).2 := by
  have h4 := hR.1
  obtain ⟨-, hlt⟩ := drV_n hd x (j := nc) c0 (by omega)
  have elf : lfR (mm_I M 75) r (drN dv x nc) = lfB (mm_I M 33) b (drN dv x nc) := by
    unfold lfR lfB
    rw [hR.2.2.2.2.2.2.2.2.2.1 _ 1 hlt (by omega), (h.1.2.2.2.2.2.2.2.2.2.1 _ hlt).2]
  have hw := h.wh (gv := gv) hR hlt (t := min (drN dv (dx x) 10 + 5) (lfB (mm_I M 33) b (drN dv x nc))) (by omega)
  obtain ⟨f1, f2⟩ := RZ.fl hd hR m0 nm _ _ (dx (dx x)) hw
  unfold ahB ahR
  dsimp only
  rw [elf, ← f2]
  refine ⟨?_, rfl⟩
  by_cases w : q ≤ dv (flB dx dv (mm_I M 33) nm nm (whB gv (drN dv x nc) (min (drN dv (dx x) 10 + 5) (lfB (mm_I M 33) b (drN dv x nc))) b) (dx (dx x))).2 10
  · rw [if_pos w, if_pos w]; exact f1
  · rw [if_neg w, if_neg w]; exact f1.door h4
end YM
