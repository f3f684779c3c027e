/-! years, of both -/
def yrX (dx : Int64 → Int64) (dv : Int64 → Int32 → Int32) (gv : Int32 → Int32 → Int32 → Int32 → Int32) (e : Nat → Int32) (nc nm : Nat) (q : Int32) (s : (Nat → Int32) × (Nat → Int32) × Int64) : (Nat → Int32) × (Nat → Int32) × Int64 :=
  (dayY (s.2.1 8).toNatClampNeg (ahB dx dv gv e nc nm q s.2.1 s.2.2).1 s.1, dayB e nm (ahB dx dv gv e nc nm q s.2.1 s.2.2).1, (ahB dx dv gv e nc nm q s.2.1 s.2.2).2)
def yrM (dx : Int64 → Int64) (dv : Int64 → Int32 → Int32) (gv : Int32 → Int32 → Int32 → Int32 → Int32) (e5 e : Nat → Int32) (nc nm : Nat) (q : Int32) (s : (Nat → Int32) × Int64) : (Nat → Int32) × Int64 :=
  (dayR e nc nm (ahR dx dv gv e5 e nc nm q s.1 s.2).1, (ahR dx dv gv e5 e nc nm q s.1 s.2).2)
section YB
variable {n : Nat} {xs : Nat → Int32} {N : Nat} {gv : Int32 → Int32 → Int32 → Int32 → Int32} {B M M' M0 Ma M1 Mb M2 W : mmM} {nc nm k p z h h0 h1 o : Nat} {bs rs : Nat → Nat → Int32} {Dk : Nat → Nat} {im : Bool} {dx : Int64 → Int64} {dv : Int64 → Int32 → Int32}
theorem yr_step (hd : DR dx dv) {q : Int32} (hR : RT M nc nm) (c0 : 0 < nc) (m0 : 0 < nm) {s : (Nat → Int32) × (Nat → Int32) × Int64} {t : (Nat → Int32) × Int64} {D : Nat} (hx : s.2.2 = t.2) (hD : D < 999) (h : RZ (mm_I M 33) nc nm s.1 s.2.1 t.1 D) : (yrX dx dv gv (mm_I M 33) nc nm q s).2.2 = (yrM dx dv gv (mm_I M 75) (mm_I M 76) nc nm q t).2 ∧ RZ (mm_I M 33) nc nm (yrX dx dv gv (mm_I M 33) nc nm q s).1 (yrX dx dv gv (mm_I M 33) nc nm q s).2.1 (yrM dx dv gv (mm_I M 75) (mm_I M 76) nc nm q t).1 (D + 1) := by
  have h4 := hR.1
  obtain ⟨a1, a2⟩ := RZ.ah hd (gv := gv) (q := q) (x := s.2.2) hR c0 m0 h
  have e8 : (s.2.1 8).toNatClampNeg = D := by rw [h.2.2.1, nI_clamp (by omega)]
  unfold yrX yrM
  dsimp only
  rw [← hx, e8]
  exact ⟨a2, RZ.day hR hD a1⟩
theorem L_yearsX {p0 z0 : Nat} {bs0 : Nat → Nat → Int32} (hd : DR dx dv) (hI : IV n xs N gv M0 nc nm k p0 z0 h0 bs0 rs Dk im) (d t : Nat) (ht : t < 1000) (c0 : 0 < nc) (m0 : 0 < nm) : ∀ (j i f : Nat) (M : mmM) (p z h : Nat) (bs : Nat → Nat → Int32) (D : Nat) (u : (Nat → Int32) × Int64), i + j = t → j < f → XR n xs M0 h0 M p z h bs → D + j ≤ 999 → mm_J M 56 0 = u.2 → RZ (mm_I M0 33) nc nm (mm_I M 41) (nowX M) u.1 D → ∃ M1 p' h', lp_X11_years n xs N (d + 11) f 45 [some (.ref 16), some (.int (nI t)), none, none, some (.int (nI i))] [] M = some (some (.int (mm_I M1 35 8)), M1) ∧ XR n xs M0 h0 M1 p' (min 40 (z + j)) h' (itK (yrX dx dv gv (mm_I M0 33) nc nm (mm_I M0 16 18)) (fun s => s.2.1) j (mm_I M 41, nowX M, mm_J M 56 0) bs) ∧ (mm_I M1 41, nowX M1, mm_J M1 56 0) = itS (yrX dx dv gv (mm_I M0 33) nc nm (mm_I M0 16 18)) j (mm_I M 41, nowX M, mm_J M 56 0) := by
  intro j
  induction j with
  | zero =>
    intro i f M p z h bs D u hij hf hR hD hu hZ
    obtain ⟨f, rfl⟩ : ∃ g, f = g + 1 := ⟨f - 1, by omega⟩
    refine ⟨M, p, h, ?_, ?_, rfl⟩
    · rw [lu_X11_years_45, if_pos (nI_le (by omega) (by omega))]
    · rw [Nat.add_zero, Nat.min_eq_right hR.2.1.2.2.2.1]; exact hR
  | succ j ih =>
    intro i f M p z h bs D u hij hf hR hD hu hZ
    obtain ⟨f, rfl⟩ : ∃ g, f = g + 1 := ⟨f - 1, by omega⟩
    have hN := hI.nN
    obtain ⟨Ma, h1, o, e1, hK⟩ := E_keepX (n := n) (xs := xs) (N := N) (d + 8) hR.2.1
    have o87 : 87 ≤ o := hK.2.2.2.2.2.1.1
    have low : ∀ a, a < 87 → a ≠ 38 → mm_I Ma a = mm_I M a := fun a ha a0 => hK.1 a a0 (by omega)
    have w5 : 87 ≤ mm_n M := hR.2.1.2.2.2.2.1
    have hRa0 := hR.kx hI.n87 hK BX.rf
    have hRa : RT Ma nc nm := hI.1.1.fa hRa0.1.fa
    have hGa := (CT.fa3 hI hRa0.1.fa).2.1
    have e33 : mm_I Ma 33 = mm_I M0 33 := (low 33 (by decide) (by decide)).trans (hR.1.1 33 (by decide) (by decide) (by decide) (by decide) (by decide) (by decide) (by decide) (by decide))
    have e16 : mm_I Ma 16 18 = mm_I M0 16 18 := by rw [low 16 (by decide) (by decide), hR.1.1 16 (by decide) (by decide) (by decide) (by decide) (by decide) (by decide) (by decide) (by decide)]
    have eJ : mm_J Ma 56 0 = mm_J M 56 0 := by rw [hK.2.2.2.2.2.2.2.2.2.1 56 (by omega)]
    have l41 : mm_I Ma 41 = mm_I M 41 := low 41 (by decide) (by decide)
    obtain ⟨M1, e2, s2, r2, y2, j2⟩ := E_drawnX (n := n) (xs := xs) (N := N) hd hRa hGa (fun j b hj hb => hRa0.2.2.2.1.at hj hb) (by omega) d c0 m0 (r := u.1) (dy := mm_I M 41) (D := D) (by rw [e33, low_nX low]; exact hZ)
    rw [e33, low_nX low, e16, eJ] at r2 y2 j2
    rw [l41] at y2
    have hR1 := hR.kx hI.n87 hK s2
    have e8 : (nowX M 8).toNatClampNeg = D := by rw [hZ.2.2.1, nI_clamp (by omega)]
    have es : (mm_I M1 41, nowX M1, mm_J M1 56 0) = yrX dx dv gv (mm_I M0 33) nc nm (mm_I M0 16 18) (mm_I M 41, nowX M, mm_J M 56 0) := by
      unfold yrX
      dsimp only
      rw [e8, r2, y2, j2]
    obtain ⟨hx', hZ'⟩ := yr_step hd (gv := gv) (q := mm_I M0 16 18) hI.1.1 c0 m0 (s := (mm_I M 41, nowX M, mm_J M 56 0)) (t := u) (D := D) hu (by omega) hZ
    rw [← es] at hx' hZ'
    obtain ⟨M2, p', h', e3, x1, x3⟩ := ih (i + 1) f M1 _ _ _ _ (D + 1) _ (by omega) (by omega) hR1 (by omega) hx' hZ'
    rw [es] at x1 x3
    refine ⟨M2, p', h', ?_, ?_, x3⟩
    · rw [lu_X11_years_45, if_neg (nI_ge (show i < t by omega) (by omega)), e1, ra_V, Option.bind_some, e2, ra_V, Option.bind_some, nI_1]
      exact e3
    · rw [show min 40 (z + (j + 1)) = min 40 (min 40 (z + 1) + j) by omega]
      exact x1
theorem flR_17 (dx : Int64 → Int64) (dv : Int64 → Int32 → Int32) (e : Nat → Int32) (nm : Nat) : ∀ (j : Nat) (r : Nat → Int32) (x : Int64), (flR dx dv e nm j r x).1 17 = r 17
  | 0, _, _ => rfl
  | j + 1, r, x => by
    show (flR dx dv e nm j _ _).1 17 = _
    rw [flR_17 dx dv e nm j]
    split <;> rfl
theorem GM.ma (hG : GM n xs N gv M0) (hA : MA M0 M) : GM n xs N gv M := by
  intro M3 q
  exact hG M3 ⟨fun a g1 g2 => (q.1 a g1 g2).trans (hA.I (by omega) (by omega) (by omega) (by omega) (by omega) (by omega)), q.2.1.trans (hA.I (by decide) (by decide) (by decide) (by decide) (by decide) (by decide)), q.2.2.trans (hA.2.2.2.2.2 29 (by decide))⟩
theorem L_yearsM (hd : DR dx dv) (hRT : RT M0 nc nm) (hG : GM n xs N gv M0) (hN : 10000 ≤ N) (d t : Nat) (ht : t < 1000) (c0 : 0 < nc) (m0 : 0 < nm) : ∀ (j i f : Nat) (M : mmM) (z : Nat) (rs : Nat → Nat → Int32) (D : Nat) (s : (Nat → Int32) × (Nat → Int32) × Int64), i + j = t → j < f → z ≤ 40 → MA M0 M → MP M z rs → D + j ≤ 999 → s.2.2 = mm_J M 60 33 → RZ (mm_I M0 33) nc nm s.1 s.2.1 (mm_I M 77) D → ∃ M1, lp_X12_years n xs N (d + 12) f 25 [some (.ref 60), some (.int (nI t)), none, none, some (.int (nI i))] [] M = some (some (.int (mm_I M1 77 16)), M1) ∧ MA M0 M1 ∧ MP M1 (min 40 (z + j)) (itK (yrM dx dv gv (mm_I M0 75) (mm_I M0 76) nc nm (mm_I M0 60 30)) (fun s => s.1) j (mm_I M 77, mm_J M 60 33) rs) ∧ (mm_I M1 77, mm_J M1 60 33) = itS (yrM dx dv gv (mm_I M0 75) (mm_I M0 76) nc nm (mm_I M0 60 30)) j (mm_I M 77, mm_J M 60 33) := by
  intro j
  induction j with
  | zero =>
    intro i f M z rs D s hij hf hz hA hM hD hs hZ
    obtain ⟨f, rfl⟩ : ∃ g, f = g + 1 := ⟨f - 1, by omega⟩
    refine ⟨M, ?_, hA, ?_, rfl⟩
    · rw [lu_X12_years_25, if_pos (nI_le (by omega) (by omega))]
    · rw [Nat.add_zero, Nat.min_eq_right hz]; exact hM
  | succ j ih =>
    intro i f M z rs D s hij hf hz hA hM hD hs hZ
    obtain ⟨f, rfl⟩ : ∃ g, f = g + 1 := ⟨f - 1, by omega⟩
    obtain ⟨Mb, e1, hS, hMP⟩ := E_keepM (n := n) (xs := xs) (N := N) hN (d + 11) hz hM
    have hAb := hA.tr hS.ma
    have hRb : RT Mb nc nm := hRT.ma hAb
    have b77 : mm_I Mb 77 = mm_I M 77 := hS.2.2.2.2.2.1 77 (by decide) (by decide)
    have bJ : mm_J Mb = mm_J M := hS.2.2.2.1
    have b33 : mm_I Mb 33 = mm_I M0 33 := hAb.I (by decide) (by decide) (by decide) (by decide) (by decide) (by decide)
    have b75 : mm_I Mb 75 = mm_I M0 75 := hAb.I (by decide) (by decide) (by decide) (by decide) (by decide) (by decide)
    have b76 : mm_I Mb 76 = mm_I M0 76 := hAb.I (by decide) (by decide) (by decide) (by decide) (by decide) (by decide)
    have b30 : mm_I Mb 60 30 = mm_I M0 60 30 := hAb.2.2.2.2.2 30 (by decide)
    obtain ⟨M1, e2, s2, r2⟩ := E_drawM (n := n) (xs := xs) (N := N) hd hRb (hG.ma hAb) (by omega) d c0 m0 (b := s.2.1) (dy := s.1) (D := D) (by rw [b33, b77]; exact hZ)
    rw [b75, b76, b30, b77, bJ] at r2
    have r21 : mm_I M1 77 = (ahR dx dv gv (mm_I M0 75) (mm_I M0 76) nc nm (mm_I M0 60 30) (mm_I M 77) (mm_J M 60 33)).1 := congrArg Prod.fst r2
    have r22 : mm_J M1 60 33 = (ahR dx dv gv (mm_I M0 75) (mm_I M0 76) nc nm (mm_I M0 60 30) (mm_I M 77) (mm_J M 60 33)).2 := congrArg Prod.snd r2
    have hA1 := hAb.tr s2.ma
    have hR1 : RT M1 nc nm := hRT.ma hA1
    have hah := (RZ.ah hd (gv := gv) (q := mm_I M0 60 30) (x := mm_J M 60 33) hRT c0 m0 hZ).1
    have h17 : mm_I M1 77 17 = nI (min 60 D) := by rw [r21]; exact hah.2.1.1
    obtain ⟨M3, e3, s3, r3⟩ := E_dayM (n := n) (xs := xs) (N := N) hR1 (by omega) (d + 9) (l := min 60 D) (by omega) h17
    have es : (mm_I M3 77, mm_J M3 60 33) = yrM dx dv gv (mm_I M0 75) (mm_I M0 76) nc nm (mm_I M0 60 30) (mm_I M 77, mm_J M 60 33) := by
      unfold yrM
      dsimp only
      rw [r3, r21, show mm_J M3 = mm_J M1 from s3.2.2.2.1, r22, hA1.I (by decide) (by decide) (by decide) (by decide) (by decide) (by decide)]
    obtain ⟨hx', hZ'⟩ := yr_step hd (gv := gv) (q := mm_I M0 60 30) hRT c0 m0 (s := s) (t := (mm_I M 77, mm_J M 60 33)) (D := D) hs (by omega) hZ
    rw [← es] at hx' hZ'
    obtain ⟨M4, e4, x1, x2, x3⟩ := ih (i + 1) f M3 _ _ (D + 1) _ (by omega) (by omega) (by omega) (hA1.tr s3.bm.ma) ((hMP.bm s2).bm s3.bm) (by omega) hx' hZ'
    rw [es] at x2 x3
    refine ⟨M4, ?_, x1, ?_, x3⟩
    · rw [lu_X12_years_25, if_neg (nI_ge (show i < t by omega) (by omega)), e1, ra_V, Option.bind_some, e2, ra_V, Option.bind_some, e3, ra_V, Option.bind_some, nI_1]
      exact e4
    · rw [show min 40 (z + (j + 1)) = min 40 (min 40 (z + 1) + j) by omega]
      exact x2
theorem IV.wJ {v : Int64} {a q : Nat} (hI : IV n xs N gv M nc nm k p z h bs rs Dk im) : IV n xs N gv (mm_wJ M a q v) nc nm k p z h bs rs Dk im := hI
theorem A_years (hI : IV n xs N gv M nc nm k p z h bs rs Dk im) (d : Nat) (x : Int32) (v : Int64) : AA n xs N (d + 60) gv nc nm M 137 [.ref 16, .int x, .long v] 257 [.ref 60, .int x, .long v] := by
  have hC := hI.ct
  have h4 := hC.nc4
  have hN := hI.nN
  have no : ∀ (_ : mmM), mm_E n xs N (d + 60) 137 [.ref 16, .int x, .long v] M = some (some (.int (-1)), M) → mm_E n xs N (d + 60) 257 [.ref 60, .int x, .long v] M = some (some (.int (-1)), M) → AA n xs N (d + 60) gv nc nm M 137 [.ref 16, .int x, .long v] 257 [.ref 60, .int x, .long v] := fun _ e1 e2 => ⟨-1, M, M, e1, e2, XA.rf.fa, _, _, _, _, _, _, _, _, hI⟩
  by_cases h0 : nm = 0
  · refine no M ?_ ?_
    · rw [u_X11_years, if_pos (hC.X0 h0).1]
    · rw [u_X12_years, if_pos (hC.X0 h0).2]
  have c0 : 0 < nc := by
    have := hC.1.2.2.1
    omega
  have m0 : 0 < nm := by omega
  cases hw : wi 1 x 60 with
  | false =>
    refine no M ?_ ?_
    · rw [u_X11_years, if_neg (hC.X1 h0).1]
      (rw [E_isWithin (d + 58) M 1 x 60, ra_I]; simp only [Option.bind_some])
      rw [hw, if_pos (show mb false = 0 by decide)]
    · rw [u_X12_years, if_neg (hC.X1 h0).2]
      (rw [E_areDays (d + 57) M x, ra_I]; simp only [Option.bind_some])
      rw [hw, Bool.false_and, if_pos (show mb false = 0 by decide)]
  | true =>
    by_cases q9 : mm_I M 35 8 + x ≤ 999
    · obtain ⟨dx, dv, hd⟩ := DR_ok
      obtain ⟨t, t1, t2, rfl⟩ := wi_1t (k := 60) (by decide) hw
      have h8 : mm_I M 35 8 = nI (Dk 0) := hI.2.2.2.2.2.2.1
      have hD := hI.2.2.2.2.2.2.2.1.1
      have hDt : Dk 0 + t ≤ 999 := by
        rw [h8, nI_add] at q9
        exact (nI_leI (b := 999) (by omega) (by omega)).mp q9
      have hI' : IV n xs N gv (mm_wJ M 56 0 v) nc nm k p z h bs rs Dk im := hI.wJ
      have hJ : mm_J (mm_wJ M 56 0 v) 56 0 = v := J_w
      obtain ⟨M1, p', h', e1, x1, x3⟩ := L_yearsX hd hI' (d + 48) t (by omega) c0 m0 t 0 N (mm_wJ M 56 0 v) p z h bs (Dk 0) (mm_I M 77, v) (by omega) (by omega) hI'.xr (by omega) hJ hI.pz.1
      rw [hJ] at x1 x3
      have f1 := x1.1.fa
      have RT1 : RT M1 nc nm := hI'.1.1.fa f1
      have G1 := (CT.fa3 hI' f1).2.2
      have hz := hI.2.2.1.2.2.2.1
      have m77 : mm_I M1 77 = mm_I M 77 := x1.1.1 77 (by decide) (by decide) (by decide) (by decide) (by decide) (by decide) (by decide) (by decide)
      have m76 : mm_I M1 76 = mm_I M 76 := x1.1.1 76 (by decide) (by decide) (by decide) (by decide) (by decide) (by decide) (by decide) (by decide)
      have m75 : mm_I M1 75 = mm_I M 75 := x1.1.1 75 (by decide) (by decide) (by decide) (by decide) (by decide) (by decide) (by decide) (by decide)
      have m33 : mm_I M1 33 = mm_I M 33 := x1.1.1 33 (by decide) (by decide) (by decide) (by decide) (by decide) (by decide) (by decide) (by decide)
      have m60 : mm_I M1 60 = mm_I M 60 := x1.1.1 60 (by decide) (by decide) (by decide) (by decide) (by decide) (by decide) (by decide) (by decide)
      have hK : mm_J (mm_wJ M1 60 33 v) 60 33 = v := J_w
      obtain ⟨M2, e2, y1, y2, y3⟩ := L_yearsM (n := n) (xs := xs) (N := N) (gv := gv) (M0 := mm_wJ M1 60 33 v) hd RT1 G1 hN (d + 47) t (by omega) c0 m0 t 0 N (mm_wJ M1 60 33 v) z rs (Dk 0) (mm_I M 41, nowX M, v) (by omega) (by omega) hz MA.rf (hI'.2.2.2.2.1.xa x1.1) (by omega) hK.symm (by
        show RZ (mm_I M1 33) nc nm (mm_I M 41) (nowX M) (mm_I M1 77) (Dk 0)
        rw [m33, m77]
        exact hI.pz.1)
      rw [hK] at y2 y3
      have g75 : mm_I (mm_wJ M1 60 33 v) 75 = mm_I M 75 := m75
      have g76 : mm_I (mm_wJ M1 60 33 v) 76 = mm_I M 76 := m76
      have g77 : mm_I (mm_wJ M1 60 33 v) 77 = mm_I M 77 := m77
      have g30 : mm_I (mm_wJ M1 60 33 v) 60 30 = mm_I M 16 18 := by
        show mm_I M1 60 30 = _
        rw [m60]
        exact hI.2.2.2.2.2.2.2.2.2.2.2.1.1.symm
      rw [g75, g76, g77, g30] at y2 y3
      obtain ⟨-, Dk', hP⟩ := PZ.it (e := mm_I M 33) (S := yrX dx dv gv (mm_I M 33) nc nm (mm_I M 16 18)) (T := yrM dx dv gv (mm_I M 75) (mm_I M 76) nc nm (mm_I M 16 18)) (dyO := fun s => s.1) (bO := fun s => s.2.1) (rO := fun s => s.1) h4 (fun s t => s.2.2 = t.2) 999 (fun s u D hx hD hz => by
        obtain ⟨q1, q2⟩ := yr_step hd (gv := gv) (q := mm_I M 16 18) hC.1 c0 m0 hx hD hz
        refine ⟨q1, D + 1, q2, by omega, Nat.le_refl _, fun x hx => ?_⟩
        have e8 : (s.2.1 8).toNatClampNeg = D := by rw [hz.2.2.1, nI_clamp (by omega)]
        show dayY (s.2.1 8).toNatClampNeg _ s.1 x = _
        rw [e8]
        unfold dayY
        rw [if_neg (by omega), if_neg (by omega), if_neg (by omega)]) t (mm_I M 41, nowX M, v) (mm_I M 77, v) z bs rs Dk rfl hz (by omega) hI.pz
      have x31 : mm_I M1 41 = (itS (yrX dx dv gv (mm_I M 33) nc nm (mm_I M 16 18)) t (mm_I M 41, nowX M, v)).1 := congrArg Prod.fst x3
      have x32 : nowX M1 = (itS (yrX dx dv gv (mm_I M 33) nc nm (mm_I M 16 18)) t (mm_I M 41, nowX M, v)).2.1 := congrArg (fun s => s.2.1) x3
      have y31 : mm_I M2 77 = (itS (yrM dx dv gv (mm_I M 75) (mm_I M 76) nc nm (mm_I M 16 18)) t (mm_I M 77, v)).1 := congrArg Prod.fst y3
      have fin := hI'.fin x1 (M2 := M2) (BM.wJ.ma.tr y1) y2 (Dk' := Dk') (by rw [x31, x32, y31]; exact hP)
      refine ⟨mm_I M1 35 8, M1, M2, ?_, ?_, fin⟩
      · rw [u_X11_years, if_neg (hC.X1 h0).1]
        (rw [E_isWithin (d + 58) M 1 (nI t) 60, ra_I]; simp only [Option.bind_some])
        rw [hw, if_neg (show ¬ mb true = 0 by decide), if_pos q9, u_X1_begin, ra_V, Option.bind_some]
        rw [nI_0] at e1
        exact e1
      · rw [u_X12_years, f1.2.2.1 26 (by decide) (by omega)]
        rw [show mm_I (mm_wJ M 56 0 v) 60 26 = mm_I M 60 26 from rfl, if_neg (hC.X1 h0).2]
        (rw [E_areDays (d + 57) M1 (nI t), ra_I]; simp only [Option.bind_some])
        rw [hw, m77, hC.b16, decide_eq_true q9, Bool.and_self, if_neg (show ¬ mb true = 0 by decide)]
        rw [nI_0] at e2
        refine e2.trans ?_
        have hq := hP.1.1.2.2.2.2.2.2.2.2.1
        have hq' : mm_I M2 77 16 = mm_I M1 35 8 := by
          rw [y31, ← nX (M := M1) (j := 8) (by omega), x32]
          exact hq
        rw [hq']
    · refine no M ?_ ?_
      · rw [u_X11_years, if_neg (hC.X1 h0).1]
        (rw [E_isWithin (d + 58) M 1 x 60, ra_I]; simp only [Option.bind_some])
        rw [hw, if_neg (show ¬ mb true = 0 by decide), if_neg q9]
      · rw [u_X12_years, if_neg (hC.X1 h0).2]
        (rw [E_areDays (d + 57) M x, ra_I]; simp only [Option.bind_some])
        rw [hw, hC.b16, decide_eq_false q9, Bool.and_false, if_pos (show mb false = 0 by decide)]
end YB
