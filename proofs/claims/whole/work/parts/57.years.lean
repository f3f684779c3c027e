/-! years by draws -/
theorem sh33 (x : Int64) : ∃ m : Nat, m < 2 ^ 31 ∧ (x.toUInt64 >>> ((33 : Int32).toInt64.toUInt64 &&& Int64.toUInt64 63)).toInt64 = lN m := by
  have h : ((33 : Int32).toInt64.toUInt64 &&& Int64.toUInt64 63) = 33 := by decide
  rw [h]
  refine ⟨(x.toUInt64 >>> 33).toNat, ?_, ?_⟩
  · rw [UInt64.toNat_shiftRight, Nat.shiftRight_eq_div_pow, show (33 : UInt64).toNat % 64 = 33 by decide]
    have := x.toUInt64.toNat_lt
    omega
  · apply Int64.toBitVec_inj.mp
    apply BitVec.eq_of_toNat_eq
    show (x.toUInt64 >>> 33).toNat = (BitVec.ofNat 64 _).toNat
    rw [BitVec.toNat_ofNat, Nat.mod_eq_of_lt (x.toUInt64 >>> 33).toNat_lt]
/-- what both draw by -/
def DR (dx : Int64 → Int64) (dv : Int64 → Int32 → Int32) : Prop := (∀ x : Int64, x * (6364136223846793005 : Int64) + (1442695040888963407 : Int64) = dx x) ∧ (∀ (x : Int64) (j : Int32), ((((dx x).toUInt64 >>> ((33 : Int32).toInt64.toUInt64 &&& Int64.toUInt64 63)).toInt64) - (((dx x).toUInt64 >>> ((33 : Int32).toInt64.toUInt64 &&& Int64.toUInt64 63)).toInt64) / j.toInt64 * j.toInt64).toInt32 = dv x j) ∧ ∀ (x : Int64) (j : Nat), 0 < j → j < 2 ^ 31 → ∃ k : Nat, k < j ∧ dv x (nI j) = nI k
theorem DR_ok : ∃ dx dv, DR dx dv := by
  refine ⟨fun x => x * (6364136223846793005 : Int64) + (1442695040888963407 : Int64), _, fun _ => rfl, fun x j => rfl, fun x j h0 hj => ?_⟩
  obtain ⟨m, hm, e⟩ := sh33 (x * (6364136223846793005 : Int64) + (1442695040888963407 : Int64))
  refine ⟨m % j, Nat.mod_lt m h0, ?_⟩
  dsimp only
  rw [e, nI_l hj, pk_lRem (by omega) h0 (by omega), lN_i]
/-- the draw as a number -/
def drN (dv : Int64 → Int32 → Int32) (x : Int64) (j : Nat) : Nat := (dv x (nI j)).toNatClampNeg
theorem drV_n {dx : Int64 → Int64} {dv : Int64 → Int32 → Int32} (hd : DR dx dv) (x : Int64) {j : Nat} (h0 : 0 < j) (hj : j < 2 ^ 31) : dv x (nI j) = nI (drN dv x j) ∧ drN dv x j < j := by
  obtain ⟨k, hk, e⟩ := hd.2.2 x j h0 hj
  have e3 : drN dv x j = k := by
    unfold drN
    rw [e, nI_clamp (by omega)]
  rw [e3]
  exact ⟨e, hk⟩
def whB (gv : Int32 → Int32 → Int32 → Int32 → Int32) (c t : Nat) (b : Nat → Int32) : Nat → Int32 := fun k => if k = 0 then (ws gv (b (13 + c)) (b 4) t (b 0, b 1)).1 else if k = 1 then (ws gv (b (13 + c)) (b 4) t (b 0, b 1)).2 else if k = 9 + c then b (9 + c) + nI t else b k
def lfB (e b : Nat → Int32) (c : Nat) : Nat := ((e (4 + c * 2 + 1)).toInt - (b (9 + c)).toInt).toNat
def lfR (e r : Nat → Int32) (c : Nat) : Nat := ((e (2 * c + 1)).toInt - (r (4 + c)).toInt).toNat
def flB (dx : Int64 → Int64) (dv : Int64 → Int32 → Int32) (e : Nat → Int32) (nm : Nat) : Nat → (Nat → Int32) → Int64 → (Nat → Int32) × Int64
  | 0, b, x => (b, x)
  | j + 1, b, x => flB dx dv e nm j (if cfN e b (drN dv x nm) = true then foldB e (drN dv x nm) b else b) (dx x)
def flR (dx : Int64 → Int64) (dv : Int64 → Int32 → Int32) (e : Nat → Int32) (nm : Nat) : Nat → (Nat → Int32) → Int64 → (Nat → Int32) × Int64
  | 0, r, x => (r, x)
  | j + 1, r, x => flR dx dv e nm j (if cfR e r (drN dv x nm) = true then foldR e (drN dv x nm) r else r) (dx x)
/-- ahead of the day's end -/
def ahB (dx : Int64 → Int64) (dv : Int64 → Int32 → Int32) (gv : Int32 → Int32 → Int32 → Int32 → Int32) (e : Nat → Int32) (nc nm : Nat) (q : Int32) (b : Nat → Int32) (x : Int64) : (Nat → Int32) × Int64 :=
  let w := flB dx dv e nm nm (whB gv (drN dv x nc) (min (drN dv (dx x) 10 + 5) (lfB e b (drN dv x nc))) b) (dx (dx x))
  (if q ≤ dv w.2 10 then w.1 else doorB w.1, dx w.2)
def ahR (dx : Int64 → Int64) (dv : Int64 → Int32 → Int32) (gv : Int32 → Int32 → Int32 → Int32 → Int32) (e5 e : Nat → Int32) (nc nm : Nat) (q : Int32) (r : Nat → Int32) (x : Int64) : (Nat → Int32) × Int64 :=
  let w := flR dx dv e nm nm (nwj gv (drN dv x nc) (min (drN dv (dx x) 10 + 5) (lfR e5 r (drN dv x nc))) r) (dx (dx x))
  (if q ≤ dv w.2 10 then w.1 else doorR w.1, dx w.2)
section YE
variable {n : Nat} {xs : Nat → Int32} {N : Nat} {gv : Int32 → Int32 → Int32 → Int32 → Int32} {B M M' M0 Ma M1 Mb M2 W : mmM} {nc nm k p z h h0 h1 o : Nat} {bs rs : Nat → Nat → Int32} {Dk : Nat → Nat} {im : Bool} {dx : Int64 → Int64} {dv : Int64 → Int32 → Int32}
theorem E_below (hd : DR dx dv) (d : Nat) (M : mmM) {j : Nat} (h0 : 0 < j) (hj : j < 2 ^ 31) : mm_E n xs N (d + 1) 10 [.ref 56, .int (nI j)] M = some (some (.int (dv (mm_J M 56 0) (nI j))), mm_wJ M 56 0 (dx (mm_J M 56 0))) := by
  have hz : ¬ (nI j).toInt64 = 0 := by
    rw [nI_l hj]
    intro q
    have := (lN_eq (a := j) (b := 0) hj (by omega)).mp q
    omega
  rw [u_X1_below, if_neg (nI_nle h0 hj), if_neg hz]
  simp only [hd.1, hd.2.1]
theorem E_draw (hd : DR dx dv) (d : Nat) (M : mmM) {j : Nat} (h0 : 0 < j) (hj : j < 2 ^ 31) : mm_E n xs N (d + 1) 255 [.ref 60, .int (nI j)] M = some (some (.int (dv (mm_J M 60 33) (nI j))), mm_wJ M 60 33 (dx (mm_J M 60 33))) := by
  have hz : ¬ (nI j).toInt64 = 0 := by
    rw [nI_l hj]
    intro q
    have := (lN_eq (a := j) (b := 0) hj (by omega)).mp q
    omega
  rw [u_X12_draw, if_neg hz]
  simp only [hd.1, hd.2.1]
theorem BX.wJ {v : Int64} {a k : Nat} : BX M (mm_wJ M a k v) := ⟨rfl, rfl, rfl, rfl, fun _ _ _ _ _ _ _ => rfl, fun _ _ => rfl⟩
theorem BM.wJ {v : Int64} {a k : Nat} : BM M (mm_wJ M a k v) := ⟨rfl, rfl, rfl, rfl, fun _ _ _ _ _ => rfl⟩
theorem J_w {v : Int64} {a k : Nat} : mm_J (mm_wJ M a k v) a k = v := up_e
theorem E_leftX (d : Nat) (M : mmM) {c : Nat} (hc : c < 4) : mm_E n xs N (d + 4) 113 [.ref 16, .int (nI c)] M = some (some (.int (mm_I M 33 (4 + c * 2 + 1) - mm_I M 36 c)), M) := by
  rw [u_X11_strokesLeft]
  (rw [show mm_E n xs N (d + 3) 94 [.ref 32, .int 1, .int (nI c), .int 1] M = _ from E_cookI d M c 1 (by omega) (by omega), ra_I]; simp only [Option.bind_some])
  (rw [E_tiredOf (d + 2) M c (by omega), ra_I]; simp only [Option.bind_some])
theorem lf_eq {a t : Int32} (h1 : bd 1 40 a) (h2 : 0 ≤ t.toInt ∧ t.toInt ≤ a.toInt) : a - t = nI (a.toInt - t.toInt).toNat ∧ (a.toInt - t.toInt).toNat ≤ 40 := by
  unfold bd at h1
  refine ⟨Int32.toInt_inj.mp ?_, by omega⟩
  rw [t_sub (by omega) (by omega), nI_toInt (by omega)]
  omega
/-- strokes of the class -/
theorem E_whX (hG : GX n xs N gv M) (hc : ∀ j b, j < 4 → mm_p (mm_Y n xs) M 26 j = some b → atc b = false) (hN : 1000 ≤ N) (d : Nat) {c t : Nat} (h4 : c < 4) (ht : t ≤ 300) (w9 : bd 0 9 (mm_I M 37 c)) (yk : bd 0 9 (mm_I M 35 4)) (st : bd 0 99 (mm_I M 35 0)) (sk : bd 0 160 (mm_I M 35 1)) : ∃ M1, mm_E n xs N (d + 10) 117 [.ref 16, .int (nI c), .int (nI t)] M = some (none, M1) ∧ BX M M1 ∧ nowX M1 = whB gv c t (nowX M) ∧ mm_I M1 41 = mm_I M 41 ∧ M1.2.2.2.2.1 = M.2.2.2.2.1 := by
  obtain ⟨M1, e1, b1, r0, r1, rx, r36, r37, r41, rJ⟩ := L_whisk (n := n) (xs := xs) (N := N) (B := M) hG hc d c t h4 ht w9 yk t 0 N M (by omega) (by omega) QX.rf rfl st (by unfold bd at sk ⊢; omega)
  refine ⟨M1, ?_, b1, ?_, r41, rJ⟩
  · rw [u_X11_whisk]
    (rw [E_wristOf (d + 8) M c h4, ra_I]; simp only [Option.bind_some])
    exact e1
  · funext j
    unfold whB
    rw [show nowX M (13 + c) = mm_I M 37 c from bow_w, nX (j := 4) (by omega), nX (j := 0) (by omega), nX (j := 1) (by omega), show nowX M (9 + c) = mm_I M 36 c from bow_t h4]
    by_cases j0 : j = 0
    · subst j0
      rw [if_pos rfl, nX (by omega), r0]
    · rw [if_neg j0]
      by_cases j1 : j = 1
      · subst j1
        rw [if_pos rfl, nX (by omega), r1]
      · rw [if_neg j1]
        by_cases j8 : j ≤ 8
        · rw [nX j8, rx j j0 j1, if_neg (by omega), nX j8]
        · by_cases j13 : j < 13
          · rw [show nowX M1 j = mm_I M1 36 (j - 9) by unfold nowX bow; rw [if_neg j8, if_pos j13], show nowX M j = mm_I M 36 (j - 9) by unfold nowX bow; rw [if_neg j8, if_pos j13], r36 (j - 9)]
            by_cases jc : j - 9 = c
            · rw [if_pos jc, if_pos (by omega)]
            · rw [if_neg jc, if_neg (by omega)]
          · rw [show nowX M1 j = mm_I M1 37 (j - 13) by unfold nowX bow; rw [if_neg j8, if_neg j13], show nowX M j = mm_I M 37 (j - 13) by unfold nowX bow; rw [if_neg j8, if_neg j13], r37, if_neg (by omega)]
/-- folding by draws, of the class -/
theorem L_dr54 (hd : DR dx dv) (d g : Nat) (h0 : 0 < nm) (h7 : nm ≤ 7) : ∀ (j i : Nat) (M : mmM), i + j = nm → ∃ M1, BX M M1 ∧ mm_I M1 33 = mm_I M 33 ∧ mm_I M1 41 = mm_I M 41 ∧ (nowX M1, mm_J M1 56 0) = flB dx dv (mm_I M 33) nm j (nowX M) (mm_J M 56 0) ∧ lp_X11_passDrawnDay n xs N (d + 5) (g + j) 54 [some (.ref 16), none, none, some (.int (nI nm)), some (.int (nI i)), none] [] M = lp_X11_passDrawnDay n xs N (d + 5) g 54 [some (.ref 16), none, none, some (.int (nI nm)), some (.int (nI nm)), none] [] M1 := by
  intro j
  induction j with
  | zero =>
    intro i M hij
    have ei : i = nm := by omega
    subst ei
    exact ⟨M, BX.rf, rfl, rfl, rfl, rfl⟩
  | succ j ih =>
    intro i M hij
    obtain ⟨ev, hlt⟩ := drV_n hd (mm_J M 56 0) (j := nm) h0 (by omega)
    have step : ∀ M2, BX M M2 → mm_I M2 33 = mm_I M 33 → mm_I M2 41 = mm_I M 41 → nowX M2 = (if cfN (mm_I M 33) (nowX M) (drN dv (mm_J M 56 0) nm) = true then foldB (mm_I M 33) (drN dv (mm_J M 56 0) nm) (nowX M) else nowX M) → mm_J M2 56 0 = dx (mm_J M 56 0) → lp_X11_passDrawnDay n xs N (d + 5) (g + j + 1) 54 [some (.ref 16), none, none, some (.int (nI nm)), some (.int (nI i)), none] [] M = lp_X11_passDrawnDay n xs N (d + 5) (g + j) 54 [some (.ref 16), none, none, some (.int (nI nm)), some (.int (nI (i + 1))), none] [] M2 → ∃ M1, BX M M1 ∧ mm_I M1 33 = mm_I M 33 ∧ mm_I M1 41 = mm_I M 41 ∧ (nowX M1, mm_J M1 56 0) = flB dx dv (mm_I M 33) nm (j + 1) (nowX M) (mm_J M 56 0) ∧ lp_X11_passDrawnDay n xs N (d + 5) (g + (j + 1)) 54 [some (.ref 16), none, none, some (.int (nI nm)), some (.int (nI i)), none] [] M = lp_X11_passDrawnDay n xs N (d + 5) g 54 [some (.ref 16), none, none, some (.int (nI nm)), some (.int (nI nm)), none] [] M1 := by
      intro M2 b2 e33 e41 en ej el
      obtain ⟨M1, x1, x2, x3, x4, x5⟩ := ih (i + 1) M2 (by omega)
      refine ⟨M1, b2.tr x1, x2.trans e33, x3.trans e41, ?_, ?_⟩
      · rw [x4, e33, en, ej]
        rfl
      · rw [← Nat.add_assoc, el, x5]
    cases hcf : cfN (mm_I M 33) (nowX M) (drN dv (mm_J M 56 0) nm) with
    | false =>
      refine step (mm_wJ M 56 0 (dx (mm_J M 56 0))) BX.wJ rfl rfl (by rw [hcf]; rfl) J_w ?_
      rw [lu_X11_passDrawnDay_54, if_neg (nI_ge (show i < nm by omega) (by omega)), E_below hd (d + 4) M h0 (by omega), ev, ra_I, Option.bind_some]
      dsimp only
      rw [E_canX (d + 1) _ (m := drN dv (mm_J M 56 0) nm) (by omega), ra_I, Option.bind_some]
      dsimp only
      rw [show cfN (mm_I (mm_wJ M 56 0 (dx (mm_J M 56 0))) 33) (nowX (mm_wJ M 56 0 (dx (mm_J M 56 0)))) (drN dv (mm_J M 56 0) nm) = false from hcf, if_pos (show mb false = 0 by decide), nI_1]
    | true =>
      obtain ⟨M2, e2, s2, r2⟩ := E_foldX (n := n) (xs := xs) (N := N) (d + 1) (mm_wJ M 56 0 (dx (mm_J M 56 0))) (m := drN dv (mm_J M 56 0) nm) (by omega)
      refine step M2 (BX.wJ.tr s2.bx) (s2.I (by decide)) (s2.I (by decide)) (by rw [r2, if_pos hcf]; rfl) (by rw [show mm_J M2 = mm_J (mm_wJ M 56 0 (dx (mm_J M 56 0))) from s2.2.2.2.1]; exact J_w) ?_
      rw [lu_X11_passDrawnDay_54, if_neg (nI_ge (show i < nm by omega) (by omega)), E_below hd (d + 4) M h0 (by omega), ev, ra_I, Option.bind_some]
      dsimp only
      rw [E_canX (d + 1) _ (m := drN dv (mm_J M 56 0) nm) (by omega), ra_I, Option.bind_some]
      dsimp only
      rw [show cfN (mm_I (mm_wJ M 56 0 (dx (mm_J M 56 0))) 33) (nowX (mm_wJ M 56 0 (dx (mm_J M 56 0)))) (drN dv (mm_J M 56 0) nm) = true from hcf, if_neg (show ¬ mb true = 0 by decide), e2, ra_V, Option.bind_some, nI_1]
theorem flB_8 (dx : Int64 → Int64) (dv : Int64 → Int32 → Int32) (e : Nat → Int32) (nm : Nat) : ∀ (j : Nat) (b : Nat → Int32) (x : Int64), (flB dx dv e nm j b x).1 8 = b 8
  | 0, _, _ => rfl
  | j + 1, b, x => by
    show (flB dx dv e nm j _ _).1 8 = _
    rw [flB_8 dx dv e nm j]
    split <;> rfl
theorem whB_8 {c t : Nat} (hc : c < 4) (b : Nat → Int32) : whB gv c t b 8 = b 8 := by
  unfold whB
  rw [if_neg (by decide), if_neg (by decide), if_neg (by omega)]
theorem doorB_8 (b : Nat → Int32) : doorB b 8 = b 8 := by
  unfold doorB
  rw [bfall_x _ (by decide) (by decide), up0_x _ _ (by decide)]
theorem ahB_8 {e : Nat → Int32} {q : Int32} {b : Nat → Int32} {x : Int64} (hc : drN dv x nc < 4) : (ahB dx dv gv e nc nm q b x).1 8 = b 8 := by
  unfold ahB
  dsimp only
  split
  · rw [flB_8, whB_8 hc]
  · rw [doorB_8, flB_8, whB_8 hc]
/-- a drawn day of the class -/
theorem E_drawnX (hd : DR dx dv) (hRT : RT M nc nm) (hG : GX n xs N gv M) (hc : ∀ j b, j < 4 → mm_p (mm_Y n xs) M 26 j = some b → atc b = false) (hN : 1000 ≤ N) (d : Nat) (c0 : 0 < nc) (m0 : 0 < nm) {r dy : Nat → Int32} {D : Nat} (hZ : RZ (mm_I M 33) nc nm dy (nowX M) r D) : ∃ M1, mm_E n xs N (d + 11) 125 [.ref 16] M = some (none, M1) ∧ BX M M1 ∧ nowX M1 = dayB (mm_I M 33) nm (ahB dx dv gv (mm_I M 33) nc nm (mm_I M 16 18) (nowX M) (mm_J M 56 0)).1 ∧ mm_I M1 41 = dayY D (ahB dx dv gv (mm_I M 33) nc nm (mm_I M 16 18) (nowX M) (mm_J M 56 0)).1 (mm_I M 41) ∧ mm_J M1 56 0 = (ahB dx dv gv (mm_I M 33) nc nm (mm_I M 16 18) (nowX M) (mm_J M 56 0)).2 := by
  have h4 := hRT.1
  have h7 := hRT.2.1
  obtain ⟨ev, hlt⟩ := drV_n hd (mm_J M 56 0) (j := nc) c0 (by omega)
  obtain ⟨ev2, hlt2⟩ := drV_n hd (dx (mm_J M 56 0)) (j := 10) (by omega) (by omega)
  obtain ⟨a1, a2, a3, a4, a5, a6, a7, a8, a9, a10, a11, a12, a13, a14, a15, a16, a17, a18, a19, a20⟩ := hZ.1
  have h8 : mm_I M 35 8 = nI D := (nX (by omega)).symm.trans hZ.2.2.1
  have a20' := a20 _ hlt
  rw [show nowX M (9 + drN dv (mm_J M 56 0) nc) = mm_I M 36 (drN dv (mm_J M 56 0) nc) from bow_t (by omega)] at a20'
  have w9' := a19 _ hlt
  rw [show nowX M (13 + drN dv (mm_J M 56 0) nc) = mm_I M 37 (drN dv (mm_J M 56 0) nc) from bow_w] at w9'
  obtain ⟨el, ll⟩ := lf_eq (hRT.2.2.2.2.2.2.2.2.2.2.2.2.2.1 _ hlt) a20'
  rw [nX (by omega)] at a11 a12 a15
  have elf : lfB (mm_I M 33) (nowX M) (drN dv (mm_J M 56 0) nc) = ((mm_I M 33 (4 + drN dv (mm_J M 56 0) nc * 2 + 1)).toInt - (mm_I M 36 (drN dv (mm_J M 56 0) nc)).toInt).toNat := by
    unfold lfB
    rw [show nowX M (9 + drN dv (mm_J M 56 0) nc) = mm_I M 36 (drN dv (mm_J M 56 0) nc) from bow_t (by omega)]
  rw [← elf] at el ll
  obtain ⟨M1, e1, b1, r1, y1, j1⟩ := E_whX (n := n) (xs := xs) (N := N) (M := mm_wJ (mm_wJ M 56 0 (dx (mm_J M 56 0))) 56 0 (dx (dx (mm_J M 56 0)))) hG hc hN d (c := drN dv (mm_J M 56 0) nc) (t := min (drN dv (dx (mm_J M 56 0)) 10 + 5) (lfB (mm_I M 33) (nowX M) (drN dv (mm_J M 56 0) nc))) (by omega) (by omega) (by unfold bd at w9' ⊢; show 0 ≤ (mm_I M 37 _).toInt ∧ (mm_I M 37 _).toInt ≤ 9; omega) a15 a11 a12
  have r1' : nowX M1 = whB gv (drN dv (mm_J M 56 0) nc) (min (drN dv (dx (mm_J M 56 0)) 10 + 5) (lfB (mm_I M 33) (nowX M) (drN dv (mm_J M 56 0) nc))) (nowX M) := r1
  have J1 : mm_J M1 56 0 = dx (dx (mm_J M 56 0)) := by
    rw [show mm_J M1 = mm_J (mm_wJ (mm_wJ M 56 0 (dx (mm_J M 56 0))) 56 0 (dx (dx (mm_J M 56 0)))) from j1]
    exact J_w
  have e33 : mm_I M1 33 = mm_I M 33 := b1.I (by decide) (by decide) (by decide) (by decide) (by decide) (by decide)
  have e34 : mm_I M1 34 = mm_I M 34 := b1.I (by decide) (by decide) (by decide) (by decide) (by decide) (by decide)
  have BX1 : BX M M1 := (BX.wJ.tr BX.wJ).tr b1
  have RT1 : RT M1 nc nm := hRT.mv (by rw [BX1.I (by decide) (by decide) (by decide) (by decide) (by decide) (by decide)]) e34 (by rw [BX1.I (by decide) (by decide) (by decide) (by decide) (by decide) (by decide)]) (by rw [BX1.I (by decide) (by decide) (by decide) (by decide) (by decide) (by decide)]) e33 (BX1.I (by decide) (by decide) (by decide) (by decide) (by decide) (by decide)) (BX1.I (by decide) (by decide) (by decide) (by decide) (by decide) (by decide)) (BX1.I (by decide) (by decide) (by decide) (by decide) (by decide) (by decide))
  obtain ⟨g, hg⟩ : ∃ g, N = g + 1 + nm := ⟨N - 1 - nm, by omega⟩
  obtain ⟨M2, b2, c33, c41, cw, e2⟩ := L_dr54 (n := n) (xs := xs) (N := N) hd (d + 5) (g + 1) m0 h7 nm 0 M1 (by omega)
  rw [← hg, nI_0] at e2
  rw [e33, r1', J1] at cw
  have cw1 : nowX M2 = (flB dx dv (mm_I M 33) nm nm (whB gv (drN dv (mm_J M 56 0) nc) (min (drN dv (dx (mm_J M 56 0)) 10 + 5) (lfB (mm_I M 33) (nowX M) (drN dv (mm_J M 56 0) nc))) (nowX M)) (dx (dx (mm_J M 56 0)))).1 := congrArg Prod.fst cw
  have cw2 : mm_J M2 56 0 = (flB dx dv (mm_I M 33) nm nm (whB gv (drN dv (mm_J M 56 0) nc) (min (drN dv (dx (mm_J M 56 0)) 10 + 5) (lfB (mm_I M 33) (nowX M) (drN dv (mm_J M 56 0) nc))) (nowX M)) (dx (dx (mm_J M 56 0)))).2 := congrArg Prod.snd cw
  have B2 : BX M (mm_wJ M2 56 0 (dx (mm_J M2 56 0))) := (BX1.tr b2).tr BX.wJ
  have m18 : mm_I M2 16 18 = mm_I M 16 18 := by rw [(BX1.tr b2).I (by decide) (by decide) (by decide) (by decide) (by decide) (by decide)]
  have y2 : mm_I M2 41 = mm_I M 41 := c41.trans y1
  have f33 : mm_I M2 33 = mm_I M 33 := c33.trans e33
  have RT2 : ∀ Mx, BX M Mx → mm_I Mx 33 = mm_I M 33 → RT Mx nc nm := fun Mx bx ex => hRT.mv (by rw [bx.I (by decide) (by decide) (by decide) (by decide) (by decide) (by decide)]) (bx.I (by decide) (by decide) (by decide) (by decide) (by decide) (by decide)) (by rw [bx.I (by decide) (by decide) (by decide) (by decide) (by decide) (by decide)]) (by rw [bx.I (by decide) (by decide) (by decide) (by decide) (by decide) (by decide)]) ex (bx.I (by decide) (by decide) (by decide) (by decide) (by decide) (by decide)) (bx.I (by decide) (by decide) (by decide) (by decide) (by decide) (by decide)) (bx.I (by decide) (by decide) (by decide) (by decide) (by decide) (by decide))
  have hah : ahB dx dv gv (mm_I M 33) nc nm (mm_I M 16 18) (nowX M) (mm_J M 56 0) = (if mm_I M 16 18 ≤ dv (mm_J M2 56 0) 10 then nowX M2 else doorB (nowX M2), dx (mm_J M2 56 0)) := by
    unfold ahB
    dsimp only
    rw [← cw1, ← cw2]
  have n8 : nowX M2 8 = nI D := by
    rw [cw1, flB_8, whB_8 (by omega), nX (by omega), h8]
  have hDl : D < 1000 := by have := hZ.2.2.2.1; omega
  have go : ∀ M3 M4, mm_E n xs N (d + 10) 124 [.ref 16] M3 = some (none, M4) → (mm_I M 16 18 ≤ dv (mm_J M2 56 0) 10 → M3 = mm_wJ M2 56 0 (dx (mm_J M2 56 0))) → (¬ mm_I M 16 18 ≤ dv (mm_J M2 56 0) 10 → mm_E n xs N (d + 10) 119 [.ref 16] (mm_wJ M2 56 0 (dx (mm_J M2 56 0))) = some (none, M3)) → mm_E n xs N (d + 11) 125 [.ref 16] M = some (none, M4) := by
    intro M3 M4 g1 g2 g3
    rw [u_X11_passDrawnDay]
    (rw [hM1 (d + 8) hRT, ra_I, Option.bind_some]; dsimp only)
    rw [E_below hd (d + 9) M c0 (by omega), ev, ra_I, Option.bind_some]
    dsimp only
    rw [show (10 : Int32) = nI 10 from rfl, E_below hd (d + 9) _ (show 0 < 10 by omega) (by omega), J_w, ev2, ra_I, Option.bind_some]
    dsimp only
    (rw [E_leftX (d + 6) _ (c := drN dv (mm_J M 56 0) nc) (by omega), ra_I, Option.bind_some]; dsimp only)
    rw [show mm_I (mm_wJ (mm_wJ M 56 0 (dx (mm_J M 56 0))) 56 0 (dx (dx (mm_J M 56 0)))) 33 (4 + drN dv (mm_J M 56 0) nc * 2 + 1) - mm_I (mm_wJ (mm_wJ M 56 0 (dx (mm_J M 56 0))) 56 0 (dx (dx (mm_J M 56 0)))) 36 (drN dv (mm_J M 56 0) nc) = nI (lfB (mm_I M 33) (nowX M) (drN dv (mm_J M 56 0) nc)) from el, show nI (drN dv (dx (mm_J M 56 0)) 10) + 5 = nI (drN dv (dx (mm_J M 56 0)) 10 + 5) from nI_add _ 5]
    (rw [E_min (d + 9) _ _ _, ra_I, Option.bind_some]; dsimp only)
    rw [i_min_nI (by omega) (by omega), e1, ra_V, Option.bind_some]
    (rw [hM2 (d + 8) RT1, ra_I, Option.bind_some]; dsimp only)
    rw [e2, lu_X11_passDrawnDay_54, if_pos (nI_le (Nat.le_refl _) (by omega)), show (10 : Int32) = nI 10 from rfl, E_below hd (d + 9) _ (show 0 < 10 by omega) (by omega), ra_I, Option.bind_some]
    dsimp only
    rw [show mm_I (mm_wJ M2 56 0 (dx (mm_J M2 56 0))) 16 18 = mm_I M 16 18 from m18]
    by_cases q : mm_I M 16 18 ≤ dv (mm_J M2 56 0) 10
    · rw [if_pos (show mm_I M 16 18 ≤ dv (mm_J M2 56 0) (nI 10) from q), ← g2 q, g1, ra_V, Option.bind_some]
    · rw [if_neg (show ¬ mm_I M 16 18 ≤ dv (mm_J M2 56 0) (nI 10) from q), g3 q, ra_V, Option.bind_some, g1, ra_V, Option.bind_some]
  by_cases q : mm_I M 16 18 ≤ dv (mm_J M2 56 0) 10
  · obtain ⟨M4, e4, b4, r4, y4, j4⟩ := E_dayX (n := n) (xs := xs) (N := N) (M := mm_wJ M2 56 0 (dx (mm_J M2 56 0))) (RT2 _ B2 f33) hN (d + 5) (D := D) hDl ((nX (M := M2) (by omega)).symm.trans n8)
    refine ⟨M4, go _ M4 e4 (fun _ => rfl) (fun w => absurd q w), B2.tr b4, ?_, ?_, ?_⟩
    · rw [r4, hah, if_pos q]
      show dayB (mm_I M2 33) nm (nowX M2) = _
      rw [f33]
    · rw [y4, hah, if_pos q]
      show dayY D (nowX M2) (mm_I M2 41) = _
      rw [y2]
    · rw [hah, show mm_J M4 = mm_J (mm_wJ M2 56 0 (dx (mm_J M2 56 0))) from j4]
      exact J_w
  · obtain ⟨M3, e3, s3, r3⟩ := E_doorX (n := n) (xs := xs) (N := N) (d + 8) (mm_wJ M2 56 0 (dx (mm_J M2 56 0)))
    have g33 : mm_I M3 33 = mm_I M 33 := (s3.I (by decide)).trans f33
    have r3' : nowX M3 = doorB (nowX M2) := r3
    obtain ⟨M4, e4, b4, r4, y4, j4⟩ := E_dayX (n := n) (xs := xs) (N := N) (M := M3) (RT2 _ (B2.tr s3.bx) g33) hN (d + 5) (D := D) hDl (by rw [← nX (M := M3) (by omega), r3', doorB_8, n8])
    refine ⟨M4, go M3 M4 e4 (fun w => absurd w q) (fun _ => e3), (B2.tr s3.bx).tr b4, ?_, ?_, ?_⟩
    · rw [r4, hah, if_neg q, g33, r3']
    · rw [y4, hah, if_neg q, r3', s3.I (show 41 ≠ 35 by decide)]
      show dayY D (doorB (nowX M2)) (mm_I M2 41) = _
      rw [y2]
    · rw [hah, show mm_J M4 = mm_J M3 from j4, show mm_J M3 = mm_J (mm_wJ M2 56 0 (dx (mm_J M2 56 0))) from s3.2.2.2.1]
      exact J_w
end YE
