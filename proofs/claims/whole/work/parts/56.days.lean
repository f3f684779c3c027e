/-! days -/
section DY
variable {n : Nat} {xs : Nat → Int32} {N : Nat} {gv : Int32 → Int32 → Int32 → Int32 → Int32} {B M M' M0 Ma M1 Mb M2 W : mmM} {nc nm k p z h h0 h1 o : Nat} {bs rs : Nat → Nat → Int32} {Dk : Nat → Nat} {im : Bool}
theorem i_min_bd {a : Nat} {x : Int32} (ha : a < 100000) (h0 : 0 ≤ x.toInt) : bd 0 a (i_min (nI a) x) := by
  unfold i_min
  have e := nI_toInt (n := a) (by omega)
  by_cases q : x < nI a
  · rw [if_pos q]
    have := Int32.lt_iff_toInt_lt.mp q
    unfold bd
    omega
  · rw [if_neg q]
    unfold bd
    omega
theorem ne60 {l : Nat} (h : l < 60) : ¬ nI l = (60 : Int32) := fun w => by
  have := (nI_eq (a := l) (b := 60) (by omega) (by omega)).mp w
  omega
theorem eq60 : nI 60 = (60 : Int32) := rfl
theorem pd_16 (l : Nat) (q : Nat → Int32) : pdR l q 16 = q 16 := by
  unfold pdR
  rw [if_neg (by decide), if_neg (by decide), if_neg (by decide), if_neg (by decide), if_neg (by decide), if_neg (by omega), if_neg (by omega), if_neg (by omega)]
theorem RZ.day {dy b r : Nat → Int32} {D : Nat} (hR : RT M nc nm) (hD : D < 999) (h : RZ (mm_I M 33) nc nm dy b r D) : RZ (mm_I M 33) nc nm (dayY D b dy) (dayB (mm_I M 33) nm b) (dayR (mm_I M 76) nc nm r) (D + 1) := by
  obtain ⟨hRB, hL, h8, hD9, hT⟩ := h
  obtain ⟨a1, a2, a3, a4, a5, a6, a7, a8, a9, a10, a11, a12, a13, a14, a15, a16, a17, a18, a19, a20⟩ := hRB
  have h4 := hR.1
  have h7 := hR.2.1
  have es : sumIn (r 10) (fun m => mm_I M 76 (4 * m + 1)) nm = sumIn (b 2) (fun m => mm_I M 33 (12 + m * 4 + 1)) nm := by
    rw [a3]
    exact sumIn_congr (fun m hm => hR.2.2.2.2.2.2.2.2.2.2.1 m 1 hm (by omega))
  have sb := sumIn_bd (s := b 2) (f := fun m => mm_I M 33 (12 + m * 4 + 1)) (b := 9) (k := nm) (by omega) (fun m hm => (hR.2.2.2.2.2.2.2.2.2.2.2.2.2.2 m hm).2.1)
  have l17 : r 17 = nI (min 60 D) := hL.1
  have low : ∀ x, x ≠ 16 → (x < 4 ∨ 4 + nc ≤ x) → x ≠ 8 → x ≠ 9 → x ≠ 10 → x ≠ 11 → x < 17 → dayR (mm_I M 76) nc nm r x = glR (mm_I M 76) nm r x := by
    intro x x16 xt x8 x9 x10 x11 x17
    unfold dayR daR
    rw [if_neg x16, if_neg (by omega)]
    by_cases q : r 17 = 60
    · rw [if_pos q]
      unfold pdR shR
      rw [if_neg x11, if_neg x10, if_neg x9, if_neg x8, if_neg (by omega), if_neg (by omega), if_neg (by omega), if_neg (by omega), if_neg (by omega)]
    · rw [if_neg q]
      unfold pdR
      rw [if_neg x11, if_neg x10, if_neg x9, if_neg x8, if_neg (by omega), if_neg (by omega), if_neg (by omega), if_neg (by omega)]
  have zer : ∀ x, 8 ≤ x → x ≤ 11 → dayR (mm_I M 76) nc nm r x = 0 := by
    intro x x1 x2
    unfold dayR daR
    rw [if_neg (by omega)]
    by_cases q0 : 4 ≤ x ∧ x < 4 + nc
    · rw [if_pos q0]
    · rw [if_neg q0]
      rcases (show x = 8 ∨ x = 9 ∨ x = 10 ∨ x = 11 by omega) with rfl | rfl | rfl | rfl <;> split <;> rfl
  have c16 : dayR (mm_I M 76) nc nm r 16 = r 16 + 1 := by
    unfold dayR daR
    rw [if_pos rfl]
    split
    · rw [pd_16]; rfl
    · rw [pd_16]; rfl
  have tir : ∀ c, c < nc → dayR (mm_I M 76) nc nm r (4 + c) = 0 := by
    intro c hc
    unfold dayR daR
    rw [if_neg (by omega), if_pos (by omega)]
  have bt : ∀ c, c < 4 → dayB (mm_I M 33) nm b (9 + c) = 0 := by
    intro c hc
    unfold dayB
    rw [if_neg (by omega), if_neg (by omega), if_neg (by omega), if_neg (by omega), if_neg (by omega), if_neg (by omega), if_neg (by omega), if_pos (by omega)]
  have bw : ∀ c, c < 4 → dayB (mm_I M 33) nm b (13 + c) = b (13 + c) := by
    intro c hc
    unfold dayB
    rw [if_neg (by omega), if_neg (by omega), if_neg (by omega), if_neg (by omega), if_neg (by omega), if_neg (by omega), if_neg (by omega), if_neg (by omega)]
  have b0 : dayB (mm_I M 33) nm b 0 = 0 := rfl
  have b1 : dayB (mm_I M 33) nm b 1 = 0 := rfl
  have b2 : dayB (mm_I M 33) nm b 2 = 0 := rfl
  have b3 : dayB (mm_I M 33) nm b 3 = 0 := rfl
  have b4 : dayB (mm_I M 33) nm b 4 = b 4 := rfl
  have b5 : dayB (mm_I M 33) nm b 5 = i_min 999 (b 5 + 2) := rfl
  have b6 : dayB (mm_I M 33) nm b 6 = i_min 9999 (b 6 + sumIn (b 2) (fun m => mm_I M 33 (12 + m * 4 + 1)) nm) := rfl
  have b7 : dayB (mm_I M 33) nm b 7 = b 7 := rfl
  have b8 : dayB (mm_I M 33) nm b 8 = b 8 + 1 := rfl
  have p2 : (0 : Int) < 2 ^ nm := by
    have : 0 < (2 : Nat) ^ nm := Nat.two_pow_pos nm
    exact_mod_cast this
  have z0 : (0 : Int32).toInt = 0 := by decide
  refine ⟨⟨?_, ?_, ?_, ?_, ?_, ?_, ?_, ?_, ?_, fun c hc => ⟨?_, ?_⟩, ?_, ?_, ?_, ?_, ?_, ?_, ?_, ?_, fun c hc => ?_, fun c hc => ?_⟩, ⟨?_, fun i w hi hw => ?_⟩, ?_, by omega, ?_⟩
  · rw [zer 8 (by omega) (by omega), b0]
  · rw [zer 9 (by omega) (by omega), b1]
  · rw [zer 10 (by omega) (by omega), b2]
  · rw [zer 11 (by omega) (by omega), b3]
  · rw [low 12 (by omega) (by omega) (by omega) (by omega) (by omega) (by omega) (by omega), b4]; exact a5
  · rw [low 13 (by omega) (by omega) (by omega) (by omega) (by omega) (by omega) (by omega), b5, ← a6]; rfl
  · rw [low 14 (by omega) (by omega) (by omega) (by omega) (by omega) (by omega) (by omega), b6, ← es, ← a7]; rfl
  · rw [low 15 (by omega) (by omega) (by omega) (by omega) (by omega) (by omega) (by omega), b7]; exact a8
  · rw [c16, b8, a9]
  · rw [low c (by omega) (by omega) (by omega) (by omega) (by omega) (by omega) (by omega), bw c (by omega)]
    show glR (mm_I M 76) nm r c = _
    unfold glR
    rw [if_neg (by omega), if_neg (by omega)]
    exact (a10 c hc).1
  · rw [tir c hc, bt c (by omega)]
  · rw [b0]; unfold bd; omega
  · rw [b1]; unfold bd; omega
  · rw [b2, z0]; exact ⟨Int.le_refl _, p2⟩
  · rw [b3]; unfold bd; omega
  · rw [b4]; exact a15
  · rw [b5]
    unfold bd at a16
    exact i_min_bd (a := 999) (by omega) (by rw [t_add (by rw [show (2 : Int32).toInt = 2 by decide]; omega) (by rw [show (2 : Int32).toInt = 2 by decide]; omega), show (2 : Int32).toInt = 2 by decide]; omega)
  · rw [b6]
    unfold bd at a17 sb
    exact i_min_bd (a := 9999) (by omega) (by rw [t_add (by omega) (by omega)]; omega)
  · rw [b8, h8, nI_1]
    exact nI_bd (h := 999) (by omega) (by omega)
  · rw [bw c (by omega)]; exact a19 c hc
  · rw [bt c (by omega), z0]
    have := a20 c hc
    omega
  · unfold dayR daR
    rw [if_neg (by omega), if_neg (by omega), l17]
    by_cases q : 60 ≤ D
    · rw [Nat.min_eq_left q, if_pos eq60, show min 60 (D + 1) = 60 by omega]
      rfl
    · rw [if_neg (ne60 (show min 60 D < 60 by omega)), nI_clamp (by omega)]
      show nI (min 60 D + 1) = _
      rw [show min 60 D + 1 = min 60 (D + 1) by omega]
  · have key : ∀ (l : Nat) (q : Nat → Int32) (x : Nat), 18 ≤ x → x < 18 + 3 * l → pdR l q x = q x := by
      intro l q x x1 x2
      unfold pdR
      rw [if_neg (by omega), if_neg (by omega), if_neg (by omega), if_neg (by omega), if_neg (by omega), if_neg (by omega), if_neg (by omega), if_neg (by omega)]
    have key2 : ∀ (l : Nat) (q : Nat → Int32) (w : Nat), w < 3 → pdR l q (18 + 3 * l + w) = if w = 2 then q 9 else if w = 1 then q 10 else q 8 := by
      intro l q w hw
      unfold pdR
      rw [if_neg (by omega), if_neg (by omega), if_neg (by omega), if_neg (by omega), if_neg (by omega)]
      rcases (show w = 0 ∨ w = 1 ∨ w = 2 by omega) with rfl | rfl | rfl
      · rw [if_neg (by omega), if_neg (by omega), if_pos (by omega)]; rfl
      · rw [if_neg (by omega), if_pos (by omega)]; rfl
      · rw [if_pos (by omega)]; rfl
    have gl : ∀ x, x ≠ 13 → x ≠ 14 → glR (mm_I M 76) nm r x = r x := fun x x1 x2 => by unfold glR; rw [if_neg x1, if_neg x2]
    have hdr : ∀ x, 18 ≤ x → dayR (mm_I M 76) nc nm r x = (if 60 ≤ D then pdR 59 (shR (glR (mm_I M 76) nm r)) else pdR D (glR (mm_I M 76) nm r)) x := by
      intro x hx
      unfold dayR daR
      rw [if_neg (by omega), if_neg (by omega), l17]
      by_cases q : 60 ≤ D
      · rw [Nat.min_eq_left q, if_pos eq60, if_pos q]
      · rw [if_neg (ne60 (show min 60 D < 60 by omega)), nI_clamp (by omega), if_neg q, Nat.min_eq_right (by omega)]
    rw [hdr _ (by omega)]
    cases i with
    | zero =>
      have hy : dayY D b dy (D % 100 * 3 + w) = if w = 2 then b 1 else if w = 1 then b 2 else b 0 := by
        unfold dayY
        rcases (show w = 0 ∨ w = 1 ∨ w = 2 by omega) with rfl | rfl | rfl
        · rw [if_neg (by omega), if_neg (by omega), if_pos (by omega)]; rfl
        · rw [if_neg (by omega), if_pos (by omega)]; rfl
        · rw [if_pos (by omega)]; rfl
      rw [show D + 1 - 1 - 0 = D by omega, hy]
      by_cases q : 60 ≤ D
      · rw [if_pos q, show min 60 (D + 1) - 1 - 0 = 59 by omega, key2 59 _ w hw]
        show (if w = 2 then r 9 else if w = 1 then r 10 else r 8) = _
        rw [a1, a2, a3]
      · rw [if_neg q, show min 60 (D + 1) - 1 - 0 = D by omega, key2 D _ w hw]
        show (if w = 2 then r 9 else if w = 1 then r 10 else r 8) = _
        rw [a1, a2, a3]
    | succ i =>
      have hy : dayY D b dy ((D + 1 - 1 - (i + 1)) % 100 * 3 + w) = dy ((D - 1 - i) % 100 * 3 + w) := by
        unfold dayY
        rw [show D + 1 - 1 - (i + 1) = D - 1 - i by omega, if_neg (by omega), if_neg (by omega), if_neg (by omega)]
      rw [hy, ← hL.2 i w (by omega) hw]
      by_cases q : 60 ≤ D
      · rw [if_pos q, key 59 _ _ (by omega) (by omega)]
        unfold shR
        rw [if_pos (by omega), gl _ (by omega) (by omega)]
        congr 1
        omega
      · rw [if_neg q, key D _ _ (by omega) (by omega), gl _ (by omega) (by omega)]
        congr 1
        omega
  · rw [b8, h8, nI_1]
  · unfold TS
    rw [b1, z0]
    have : ∀ c, c ≤ nc → tsI (dayB (mm_I M 33) nm b) c = 0 := by
      intro c
      induction c with
      | zero => intro _; rfl
      | succ c ih =>
        intro hc
        show tsI _ c + (dayB (mm_I M 33) nm b (9 + c)).toInt = 0
        rw [ih (by omega), bt c (by omega), z0]
        rfl
    exact (this nc (Nat.le_refl _)).symm
theorem L_daysX {p0 z0 : Nat} {bs0 : Nat → Nat → Int32} (hI : IV n xs N gv M0 nc nm k p0 z0 h0 bs0 rs Dk im) (d t : Nat) (ht : t < 1000) : ∀ (j i f : Nat) (M : mmM) (p z h : Nat) (bs : Nat → Nat → Int32) (D : Nat), i + j = t → j < f → XR n xs M0 h0 M p z h bs → D + j < 1000 → mm_I M 35 8 = nI D → ∃ M1 p' h', lp_X11_days n xs N (d + 5) f 52 [some (.ref 16), some (.int (nI t)), some (.int (nI i))] [] M = some (some (.int (mm_I M1 35 8)), M1) ∧ XR n xs M0 h0 M1 p' (min 40 (z + j)) h' (itK (fun s : (Nat → Int32) × (Nat → Int32) => (dayY (s.2 8).toNatClampNeg s.2 s.1, dayB (mm_I M0 33) nm s.2)) (fun s => s.2) j (mm_I M 41, nowX M) bs) ∧ (mm_I M1 41, nowX M1) = itS (fun s : (Nat → Int32) × (Nat → Int32) => (dayY (s.2 8).toNatClampNeg s.2 s.1, dayB (mm_I M0 33) nm s.2)) j (mm_I M 41, nowX M) := by
  intro j
  induction j with
  | zero =>
    intro i f M p z h bs D hij hf hR hD h8
    obtain ⟨f, rfl⟩ : ∃ g, f = g + 1 := ⟨f - 1, by omega⟩
    refine ⟨M, p, h, ?_, ?_, rfl⟩
    · rw [lu_X11_days_52, if_pos (nI_le (by omega) (by omega))]
    · rw [Nat.add_zero, Nat.min_eq_right hR.2.1.2.2.2.1]; exact hR
  | succ j ih =>
    intro i f M p z h bs D hij hf hR hD h8
    obtain ⟨f, rfl⟩ : ∃ g, f = g + 1 := ⟨f - 1, by omega⟩
    have hN := hI.nN
    obtain ⟨Ma, h1, o, e1, hK⟩ := E_keepX (n := n) (xs := xs) (N := N) (d + 2) hR.2.1
    have o87 : 87 ≤ o := hK.2.2.2.2.2.1.1
    have low : ∀ a, a < 87 → a ≠ 38 → mm_I Ma a = mm_I M a := fun a ha a0 => hK.1 a a0 (by omega)
    have hRa : RT Ma nc nm := hI.1.1.fa (hR.kx hI.n87 hK BX.rf).1.fa
    obtain ⟨M1, e2, s2, r2, y2, -⟩ := E_dayX (n := n) (xs := xs) (N := N) hRa (by omega) d (D := D) (by omega) (by rw [low 35 (by decide) (by decide)]; exact h8)
    have hR1 := hR.kx hI.n87 hK s2
    have e33 : mm_I Ma 33 = mm_I M0 33 := (low 33 (by decide) (by decide)).trans (hR.1.1 33 (by decide) (by decide) (by decide) (by decide) (by decide) (by decide) (by decide) (by decide))
    have r2' : nowX M1 = dayB (mm_I M0 33) nm (nowX M) := by rw [r2, e33, low_nX low]
    have eD : (nowX M 8).toNatClampNeg = D := by rw [nX (by omega), h8, nI_clamp (by omega)]
    have y2' : mm_I M1 41 = dayY (nowX M 8).toNatClampNeg (nowX M) (mm_I M 41) := by rw [y2, low_nX low, low 41 (by decide) (by decide), eD]
    have h8' : mm_I M1 35 8 = nI (D + 1) := by
      rw [← nX (M := M1) (by omega), r2']
      show nowX M 8 + 1 = _
      rw [nX (by omega), h8, nI_1]
    obtain ⟨M2, p', h', e3, x1, x3⟩ := ih (i + 1) f M1 _ _ _ _ (D + 1) (by omega) (by omega) hR1 (by omega) h8'
    rw [r2', y2'] at x1 x3
    refine ⟨M2, p', h', ?_, ?_, x3⟩
    · rw [lu_X11_days_52, if_neg (nI_ge (show i < t by omega) (by omega)), e1, ra_V, Option.bind_some, e2, ra_V, Option.bind_some, nI_1]
      exact e3
    · rw [show min 40 (z + (j + 1)) = min 40 (min 40 (z + 1) + j) by omega]
      exact x1
theorem RT.ma (hRT : RT M0 nc nm) (hAb : MA M0 Mb) : RT Mb nc nm := hRT.mv (by rw [hAb.I (by decide) (by decide) (by decide) (by decide) (by decide) (by decide)]) (hAb.I (by decide) (by decide) (by decide) (by decide) (by decide) (by decide)) (hAb.2.2.2.2.2 25 (by decide)) (hAb.2.2.2.2.2 26 (by decide)) (hAb.I (by decide) (by decide) (by decide) (by decide) (by decide) (by decide)) (hAb.I (by decide) (by decide) (by decide) (by decide) (by decide) (by decide)) (hAb.I (by decide) (by decide) (by decide) (by decide) (by decide) (by decide)) (hAb.I (by decide) (by decide) (by decide) (by decide) (by decide) (by decide))
theorem dayR_17 {e r : Nat → Int32} {l : Nat} (h4 : nc ≤ 4) (hl : l ≤ 60) (h : r 17 = nI l) : dayR e nc nm r 17 = nI (min 60 (l + 1)) := by
  unfold dayR daR
  rw [if_neg (by omega), if_neg (by omega), h]
  by_cases q : l = 60
  · subst q
    rw [if_pos eq60]
    rfl
  · rw [if_neg (ne60 (show l < 60 by omega)), nI_clamp (by omega)]
    show nI (l + 1) = _
    rw [show min 60 (l + 1) = l + 1 by omega]
theorem L_daysM (hRT : RT M0 nc nm) (hN : 10000 ≤ N) (d t : Nat) (ht : t < 1000) : ∀ (j i f : Nat) (M : mmM) (z : Nat) (rs : Nat → Nat → Int32) (l : Nat), i + j = t → j < f → z ≤ 40 → MA M0 M → MP M z rs → l ≤ 60 → mm_I M 77 17 = nI l → ∃ M1, lp_X12_days n xs N (d + 3) f 49 [some (.ref 60), some (.int (nI t)), some (.int (nI i))] [] M = some (some (.int (mm_I M1 77 16)), M1) ∧ MA M0 M1 ∧ MP M1 (min 40 (z + j)) (itK (dayR (mm_I M0 76) nc nm) id j (mm_I M 77) rs) ∧ mm_I M1 77 = itS (dayR (mm_I M0 76) nc nm) j (mm_I M 77) := by
  intro j
  induction j with
  | zero =>
    intro i f M z rs l hij hf hz hA hM hl h17
    obtain ⟨f, rfl⟩ : ∃ g, f = g + 1 := ⟨f - 1, by omega⟩
    refine ⟨M, ?_, hA, ?_, rfl⟩
    · rw [lu_X12_days_49, if_pos (nI_le (by omega) (by omega))]
    · rw [Nat.add_zero, Nat.min_eq_right hz]; exact hM
  | succ j ih =>
    intro i f M z rs l hij hf hz hA hM hl h17
    obtain ⟨f, rfl⟩ : ∃ g, f = g + 1 := ⟨f - 1, by omega⟩
    obtain ⟨Mb, e1, hS, hMP⟩ := E_keepM (n := n) (xs := xs) (N := N) hN (d + 2) hz hM
    have hAb := hA.tr hS.ma
    have hRb : RT Mb nc nm := hRT.ma hAb
    have b77 : mm_I Mb 77 = mm_I M 77 := hS.2.2.2.2.2.1 77 (by decide) (by decide)
    obtain ⟨M1, e2, s2, r2⟩ := E_dayM (n := n) (xs := xs) (N := N) hRb (by omega) d hl (by rw [b77]; exact h17)
    have r2' : mm_I M1 77 = dayR (mm_I M0 76) nc nm (mm_I M 77) := by rw [r2, b77, hAb.I (by decide) (by decide) (by decide) (by decide) (by decide) (by decide)]
    obtain ⟨M2, e3, x1, x2, x3⟩ := ih (i + 1) f M1 _ _ (min 60 (l + 1)) (by omega) (by omega) (by omega) (hAb.tr s2.bm.ma) (hMP.bm s2.bm) (by omega) (by rw [r2']; exact dayR_17 hRT.1 hl h17)
    rw [r2'] at x2 x3
    refine ⟨M2, ?_, x1, ?_, x3⟩
    · rw [lu_X12_days_49, if_neg (nI_ge (show i < t by omega) (by omega)), e1, ra_V, Option.bind_some, e2, ra_V, Option.bind_some, nI_1]
      exact e3
    · rw [show min 40 (z + (j + 1)) = min 40 (min 40 (z + 1) + j) by omega]
      exact x2
theorem E_areDays (d : Nat) (M : mmM) (x : Int32) : mm_E n xs N (d + 2) 252 [.ref 60, .int x] M = some (some (.int (mb (wi 1 x 60 && decide (mm_I M 77 16 + x ≤ 999)))), M) := by
  rw [u_X12_areDays]
  (rw [E_in d M x 1 60, ra_I]; simp only [Option.bind_some])
  cases wi 1 x 60 with
  | false => rfl
  | true =>
    rw [if_neg (show ¬ mb true = 0 by decide)]
    by_cases q : mm_I M 77 16 + x ≤ 999
    · rw [if_neg (i_nlt.mpr q), decide_eq_true q]; rfl
    · rw [if_pos (i_nle.mp q), decide_eq_false q]; rfl
theorem CT.b16 (h : CT n xs N gv M nc nm) : mm_I M 77 16 = mm_I M 35 8 := h.2.1.2.2.2.2.2.2.2.2.1
theorem A_days (hI : IV n xs N gv M nc nm k p z h bs rs Dk im) (d : Nat) (x : Int32) : AA n xs N (d + 60) gv nc nm M 135 [.ref 16, .int x] 253 [.ref 60, .int x] := by
  have hC := hI.ct
  have h4 := hC.nc4
  have hN := hI.nN
  by_cases h0 : nm = 0
  · refine AA.ref hI (i := 0) (by omega) ?_ (fun Mr hMr => ?_)
    · rw [u_X11_days, if_pos (hC.X0 h0).1]
      (rw [E_ref0 (d + 57) M, ra_I]; simp only [Option.bind_some])
    · subst hMr
      rw [u_X12_days, if_pos (hI.ct57.X0 h0).2, E_isr0 (d + 58) _, ra_I, Option.bind_some]
      dsimp only
      rw [if_neg (by decide)]
  cases hw : wi 1 x 60 with
  | false =>
    refine AA.ref hI (i := 1) (by omega) ?_ (fun Mr hMr => ?_)
    · rw [u_X11_days, if_neg (hC.X1 h0).1]
      (rw [E_isWithin (d + 58) M 1 x 60, ra_I]; simp only [Option.bind_some])
      rw [hw, if_pos (show mb false = 0 by decide)]
      (rw [E_ref1 (d + 57) M, ra_I]; simp only [Option.bind_some])
    · subst hMr
      rw [u_X12_days, if_neg (hI.ct57.X1 h0).2]
      (rw [E_in (d + 58) _ x 1 60, ra_I]; simp only [Option.bind_some])
      rw [hw, if_pos (show mb false = 0 by decide), E_isr1 (d + 58) _, ra_I, Option.bind_some]
      dsimp only
      rw [if_neg (by decide)]
  | true =>
    by_cases q9 : mm_I M 35 8 + x ≤ 999
    · obtain ⟨t, t1, t2, rfl⟩ := wi_1t (k := 60) (by decide) hw
      have h8 : mm_I M 35 8 = nI (Dk 0) := hI.2.2.2.2.2.2.1
      have hD := hI.2.2.2.2.2.2.2.1.1
      have hDt : Dk 0 + t ≤ 999 := by
        rw [h8, nI_add] at q9
        exact (nI_leI (b := 999) (by omega) (by omega)).mp q9
      obtain ⟨M1, p', h', e1, x1, x3⟩ := L_daysX hI (d + 54) t (by omega) t 0 N M p z h bs (Dk 0) (by omega) (by omega) hI.xr (by omega) h8
      have f1 := x1.1.fa
      have RT1 : RT M1 nc nm := hC.1.fa f1
      have hz := hI.2.2.1.2.2.2.1
      have m77 : mm_I M1 77 = mm_I M 77 := x1.1.1 77 (by decide) (by decide) (by decide) (by decide) (by decide) (by decide) (by decide) (by decide)
      have m76 : mm_I M1 76 = mm_I M 76 := x1.1.1 76 (by decide) (by decide) (by decide) (by decide) (by decide) (by decide) (by decide) (by decide)
      obtain ⟨M2, e2, y1, y2, y3⟩ := L_daysM (n := n) (xs := xs) (N := N) RT1 hN (d + 56) t (by omega) t 0 N M1 z rs (min 60 (Dk 0)) (by omega) (by omega) hz MA.rf (hI.2.2.2.2.1.xa x1.1) (by omega) (by rw [m77]; exact hI.2.2.2.2.2.1.1)
      rw [m77, m76] at y2 y3
      obtain ⟨-, Dk', hP⟩ := PZ.it (e := mm_I M 33) (S := fun s : (Nat → Int32) × (Nat → Int32) => (dayY (s.2 8).toNatClampNeg s.2 s.1, dayB (mm_I M 33) nm s.2)) (T := dayR (mm_I M 76) nc nm) (dyO := fun s => s.1) (bO := fun s => s.2) (rO := id) h4 (fun _ _ => True) 999 (fun s u D _ hD hz => by
        have e8 : (s.2 8).toNatClampNeg = D := by rw [hz.2.2.1, nI_clamp (by omega)]
        refine ⟨trivial, D + 1, ?_, by omega, Nat.le_refl _, fun x hx => ?_⟩
        · show RZ _ _ _ (dayY (s.2 8).toNatClampNeg s.2 s.1) _ _ _
          rw [e8]
          exact RZ.day hC.1 hD hz
        · show dayY (s.2 8).toNatClampNeg s.2 s.1 x = _
          rw [e8]
          unfold dayY
          rw [if_neg (by omega), if_neg (by omega), if_neg (by omega)]) t (mm_I M 41, nowX M) (mm_I M 77) z bs rs Dk trivial hz (by omega) hI.pz
      have x31 : mm_I M1 41 = (itS (fun s : (Nat → Int32) × (Nat → Int32) => (dayY (s.2 8).toNatClampNeg s.2 s.1, dayB (mm_I M 33) nm s.2)) t (mm_I M 41, nowX M)).1 := congrArg Prod.fst x3
      have x32 : nowX M1 = (itS (fun s : (Nat → Int32) × (Nat → Int32) => (dayY (s.2 8).toNatClampNeg s.2 s.1, dayB (mm_I M 33) nm s.2)) t (mm_I M 41, nowX M)).2 := congrArg Prod.snd x3
      have fin := hI.fin x1 y1 y2 (Dk' := Dk') (by rw [x31, x32, y3]; exact hP)
      refine ⟨mm_I M1 35 8, M1, M2, ?_, ?_, fin⟩
      · rw [u_X11_days, if_neg (hC.X1 h0).1]
        (rw [E_isWithin (d + 58) M 1 (nI t) 60, ra_I]; simp only [Option.bind_some])
        rw [hw, if_neg (show ¬ mb true = 0 by decide), if_pos q9]
        rw [nI_0] at e1
        exact e1
      · rw [u_X12_days, f1.2.2.1 26 (by decide) (by omega), if_neg (hC.X1 h0).2]
        (rw [E_in (d + 58) M1 (nI t) 1 60, ra_I]; simp only [Option.bind_some])
        rw [hw, if_neg (show ¬ mb true = 0 by decide)]
        (rw [E_areDays (d + 57) M1 (nI t), ra_I]; simp only [Option.bind_some])
        rw [hw, m77, hC.b16, decide_eq_true q9, Bool.and_self, if_neg (show ¬ mb true = 0 by decide), E_isRefN (d + 58) _, ra_I, Option.bind_some]
        dsimp only
        rw [nI_0] at e2
        rw [if_pos rfl]
        refine e2.trans ?_
        have hq := hP.1.1.2.2.2.2.2.2.2.2.1
        have hq' : mm_I M2 77 16 = mm_I M1 35 8 := by
          rw [y3, ← nX (M := M1) (j := 8) (by omega), x32]
          exact hq
        rw [hq']
    · refine AA.ref hI (i := 4) (by omega) ?_ (fun Mr hMr => ?_)
      · rw [u_X11_days, if_neg (hC.X1 h0).1]
        (rw [E_isWithin (d + 58) M 1 x 60, ra_I]; simp only [Option.bind_some])
        rw [hw, if_neg (show ¬ mb true = 0 by decide), if_neg q9]
        (rw [E_ref4 (d + 57) M, ra_I]; simp only [Option.bind_some])
      · have hCr : CT n xs N gv Mr nc nm := by rw [hMr]; exact hI.ct57
        have r35 : mm_I Mr 35 = mm_I M 35 := by rw [hMr, I_wn (by decide)]
        rw [u_X12_days, if_neg (hCr.X1 h0).2]
        (rw [E_in (d + 58) Mr x 1 60, ra_I]; simp only [Option.bind_some])
        rw [hw, if_neg (show ¬ mb true = 0 by decide)]
        (rw [E_areDays (d + 57) Mr x, ra_I]; simp only [Option.bind_some])
        rw [hw, hCr.b16, r35, decide_eq_false q9, Bool.and_false, if_pos (show mb false = 0 by decide), E_isr4 (d + 58) _, ra_I, Option.bind_some]
        dsimp only
        rw [if_neg (by decide)]
end DY
