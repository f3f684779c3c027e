/-! what was seen; a minister asked for -/
section SE
variable {n : Nat} {xs : Nat → Int32} {N : Nat} {gv : Int32 → Int32 → Int32 → Int32 → Int32} {M M' M1 M2 : mmM} {nc nm k p z h : Nat} {bs rs : Nat → Nat → Int32} {Dk : Nat → Nat} {im : Bool}
def snX (M : mmM) (k : Nat) (x1 x2 x3 x4 : Int32) : mmM := mm_wI (mm_wI (mm_wI (mm_wI (mm_wI M 48 k x1) 49 k x2) 50 k x3) 51 k (vp_nar .boolean x4)) 47 4 (nI (k + 1))
def snM (M : mmM) (k : Nat) (x1 x2 x3 x4 : Int32) : mmM := mm_wI (mm_wI (mm_wI (mm_wI (mm_wI M 81 k x1) 82 k x2) 83 k x3) 84 k (vp_nar .boolean x4)) 60 43 (nI (k + 1))
theorem A_seen (hI : IV n xs N gv M nc nm k p z h bs rs Dk im) (d : Nat) (c x y w : Int32) : AA n xs N (d + 60) gv nc nm M 152 [.ref 16, .int c, .int x, .int y, .int w] 276 [.ref 60, .int c, .int x, .int y, .int w] := by
  have hC := hI.ct
  have h4 := hC.nc4
  obtain ⟨k10, k47, k60, kr⟩ := hI.2.1
  have no : ∀ (_ : mmM), mm_E n xs N (d + 60) 152 [.ref 16, .int c, .int x, .int y, .int w] M = some (some (.int (-1)), M) → mm_E n xs N (d + 60) 276 [.ref 60, .int c, .int x, .int y, .int w] M = some (some (.int (-1)), M) → AA n xs N (d + 60) gv nc nm M 152 [.ref 16, .int c, .int x, .int y, .int w] 276 [.ref 60, .int c, .int x, .int y, .int w] := fun _ e1 e2 => ⟨-1, M, M, e1, e2, XA.rf.fa, _, _, _, _, _, _, _, _, hI⟩
  cases hk : ck nc c with
  | false =>
    refine no M ?_ ?_
    · rw [u_X11_seen]
      (rw [E_hasCook (d + 56) hC.1 c, ra_I]; simp only [Option.bind_some])
      rw [hk, if_pos (show mb false = 0 by decide)]
    · rw [u_X12_seen]
      (rw [E_isCook (d + 57) hC.1 c, ra_I]; simp only [Option.bind_some])
      rw [hk, if_pos (show mb false = 0 by decide)]
  | true =>
    cases hx : wi 1 x 40 with
    | false =>
      refine no M ?_ ?_
      · rw [u_X11_seen]
        (rw [E_hasCook (d + 56) hC.1 c, ra_I]; simp only [Option.bind_some])
        rw [hk, if_neg (show ¬ mb true = 0 by decide)]
        (rw [E_isWithin (d + 58) M 1 x 40, ra_I]; simp only [Option.bind_some])
        rw [hx, if_pos (show mb false = 0 by decide)]
      · rw [u_X12_seen]
        (rw [E_isCook (d + 57) hC.1 c, ra_I]; simp only [Option.bind_some])
        rw [hk, if_neg (show ¬ mb true = 0 by decide)]
        (rw [E_in (d + 58) M x 1 40, ra_I]; simp only [Option.bind_some])
        rw [hx, if_pos (show mb false = 0 by decide)]
    | true =>
      cases hy : wi 0 y 99 with
      | false =>
        refine no M ?_ ?_
        · rw [u_X11_seen]
          (rw [E_hasCook (d + 56) hC.1 c, ra_I]; simp only [Option.bind_some])
          rw [hk, if_neg (show ¬ mb true = 0 by decide)]
          (rw [E_isWithin (d + 58) M 1 x 40, ra_I]; simp only [Option.bind_some])
          rw [hx, if_neg (show ¬ mb true = 0 by decide)]
          (rw [E_isStand (d + 57) M y, ra_I]; simp only [Option.bind_some])
          rw [hy, if_pos (show mb false = 0 by decide)]
        · rw [u_X12_seen]
          (rw [E_isCook (d + 57) hC.1 c, ra_I]; simp only [Option.bind_some])
          rw [hk, if_neg (show ¬ mb true = 0 by decide)]
          (rw [E_in (d + 58) M x 1 40, ra_I]; simp only [Option.bind_some])
          rw [hx, if_neg (show ¬ mb true = 0 by decide)]
          (rw [E_in (d + 58) M y 0 99, ra_I]; simp only [Option.bind_some])
          rw [hy, if_pos (show mb false = 0 by decide)]
      | true =>
        by_cases q : k = 10
        · refine no M ?_ ?_
          · rw [u_X11_seen]
            (rw [E_hasCook (d + 56) hC.1 c, ra_I]; simp only [Option.bind_some])
            rw [hk, if_neg (show ¬ mb true = 0 by decide)]
            (rw [E_isWithin (d + 58) M 1 x 40, ra_I]; simp only [Option.bind_some])
            rw [hx, if_neg (show ¬ mb true = 0 by decide)]
            (rw [E_isStand (d + 57) M y, ra_I]; simp only [Option.bind_some])
            rw [hy, if_neg (show ¬ mb true = 0 by decide), u_X8_isFull, k47, q, if_neg (show ¬ nI 10 < (10 : Int32) by decide), ra_I, Option.bind_some]
            dsimp only
            rw [if_neg (by decide)]
          · rw [u_X12_seen]
            (rw [E_isCook (d + 57) hC.1 c, ra_I]; simp only [Option.bind_some])
            rw [hk, if_neg (show ¬ mb true = 0 by decide)]
            (rw [E_in (d + 58) M x 1 40, ra_I]; simp only [Option.bind_some])
            rw [hx, if_neg (show ¬ mb true = 0 by decide)]
            (rw [E_in (d + 58) M y 0 99, ra_I]; simp only [Option.bind_some])
            rw [hy, if_neg (show ¬ mb true = 0 by decide), k60, q, if_pos (show nI 10 = (10 : Int32) from rfl)]
        · obtain ⟨cc, hcc, ec⟩ := ck_t (by omega) hk
          obtain ⟨t, t1, t2, et⟩ := wi_1t (k := 40) (by decide) hx
          have klt : k < 10 := by omega
          have lt10 : nI k < (10 : Int32) := nI_lt (b := 10) klt (by omega)
          have ne10 : ¬ nI k = (10 : Int32) := fun e => q ((nI_eq (a := k) (b := 10) (by omega) (by omega)).mp e)
          have fX : ∀ a, a ≠ 47 → a ≠ 48 → a ≠ 49 → a ≠ 50 → a ≠ 51 → mm_I (snX M k c x y w) a = mm_I M a := fun a a1 a2 a3 a4 a5 => by unfold snX; rw [I_wn a1, I_wn a5, I_wn a4, I_wn a3, I_wn a2]
          have fM : ∀ Mx a, a ≠ 60 → a ≠ 81 → a ≠ 82 → a ≠ 83 → a ≠ 84 → mm_I (snM Mx k c x y w) a = mm_I Mx a := fun Mx a a1 a2 a3 a4 a5 => by unfold snM; rw [I_wn a1, I_wn a5, I_wn a4, I_wn a3, I_wn a2]
          have fI : ∀ a, a ≠ 47 → a ≠ 48 → a ≠ 49 → a ≠ 50 → a ≠ 51 → a ≠ 60 → a ≠ 81 → a ≠ 82 → a ≠ 83 → a ≠ 84 → mm_I (snM (snX M k c x y w) k c x y w) a = mm_I M a := fun a a1 a2 a3 a4 a5 b1 b2 b3 b4 b5 => (fM _ a b1 b2 b3 b4 b5).trans (fX a a1 a2 a3 a4 a5)
          have f60 : ∀ q, q ≠ 43 → mm_I (snM (snX M k c x y w) k c x y w) 60 q = mm_I M 60 q := fun q hq => by
            unfold snM
            rw [I_w, if_pos rfl, if_neg hq, I_wn (by decide), I_wn (by decide), I_wn (by decide), I_wn (by decide), fX 60 (by decide) (by decide) (by decide) (by decide) (by decide)]
          have w47 : mm_I (snM (snX M k c x y w) k c x y w) 47 4 = nI (k + 1) := by
            rw [fM _ 47 (by decide) (by decide) (by decide) (by decide) (by decide)]
            unfold snX
            rw [I_w, if_pos rfl, if_pos rfl]
          have w60 : mm_I (snM (snX M k c x y w) k c x y w) 60 43 = nI (k + 1) := by
            unfold snM
            rw [I_w, if_pos rfl, if_pos rfl]
          have w48 : ∀ i, mm_I (snM (snX M k c x y w) k c x y w) 48 i = if i = k then c else mm_I M 48 i := fun i => by
            rw [fM _ 48 (by decide) (by decide) (by decide) (by decide) (by decide)]
            unfold snX
            rw [I_wn (by decide), I_wn (by decide), I_wn (by decide), I_wn (by decide), I_s]
          have w49 : ∀ i, mm_I (snM (snX M k c x y w) k c x y w) 49 i = if i = k then x else mm_I M 49 i := fun i => by
            rw [fM _ 49 (by decide) (by decide) (by decide) (by decide) (by decide)]
            unfold snX
            rw [I_wn (by decide), I_wn (by decide), I_wn (by decide), I_s, I_wn (by decide)]
          have w50 : ∀ i, mm_I (snM (snX M k c x y w) k c x y w) 50 i = if i = k then y else mm_I M 50 i := fun i => by
            rw [fM _ 50 (by decide) (by decide) (by decide) (by decide) (by decide)]
            unfold snX
            rw [I_wn (by decide), I_wn (by decide), I_s, I_wn (by decide), I_wn (by decide)]
          have w51 : ∀ i, mm_I (snM (snX M k c x y w) k c x y w) 51 i = if i = k then vp_nar .boolean w else mm_I M 51 i := fun i => by
            rw [fM _ 51 (by decide) (by decide) (by decide) (by decide) (by decide)]
            unfold snX
            rw [I_wn (by decide), I_s, I_wn (by decide), I_wn (by decide), I_wn (by decide)]
          have w81 : ∀ i, mm_I (snM (snX M k c x y w) k c x y w) 81 i = if i = k then c else mm_I M 81 i := fun i => by
            unfold snM
            rw [I_wn (by decide), I_wn (by decide), I_wn (by decide), I_wn (by decide), I_s, fX 81 (by decide) (by decide) (by decide) (by decide) (by decide)]
          have w82 : ∀ i, mm_I (snM (snX M k c x y w) k c x y w) 82 i = if i = k then x else mm_I M 82 i := fun i => by
            unfold snM
            rw [I_wn (by decide), I_wn (by decide), I_wn (by decide), I_s, I_wn (by decide), fX 82 (by decide) (by decide) (by decide) (by decide) (by decide)]
          have w83 : ∀ i, mm_I (snM (snX M k c x y w) k c x y w) 83 i = if i = k then y else mm_I M 83 i := fun i => by
            unfold snM
            rw [I_wn (by decide), I_wn (by decide), I_s, I_wn (by decide), I_wn (by decide), fX 83 (by decide) (by decide) (by decide) (by decide) (by decide)]
          have w84 : ∀ i, mm_I (snM (snX M k c x y w) k c x y w) 84 i = if i = k then vp_nar .boolean w else mm_I M 84 i := fun i => by
            unfold snM
            rw [I_wn (by decide), I_s, I_wn (by decide), I_wn (by decide), I_wn (by decide), fX 84 (by decide) (by decide) (by decide) (by decide) (by decide)]
          have hW := hI.2.2.1
          have fin := hI.re (M' := snM (snX M k c x y w) k c x y w) (k' := k + 1) (p' := p) (z' := z) (bs' := bs) (rs' := rs) (Dk' := Dk) (im' := im) rfl rfl rfl rfl (fun a ha => fI a (atc_ne ha (by decide)) (atc_ne ha (by decide)) (atc_ne ha (by decide)) (atc_ne ha (by decide)) (atc_ne ha (by decide)) (atc_ne ha (by decide)) (atc_ne ha (by decide)) (atc_ne ha (by decide)) (atc_ne ha (by decide)) (atc_ne ha (by decide))) (fun a ha => fI a (by omega) (by omega) (by omega) (by omega) (by omega) (by omega) (by omega) (by omega) (by omega) (by omega)) (fun q _ hq => f60 q (by omega)) (fun q _ _ => by rw [fI 16 (by decide) (by decide) (by decide) (by decide) (by decide) (by decide) (by decide) (by decide) (by decide) (by decide)]) (by
              have en : nowX (snM (snX M k c x y w) k c x y w) = nowX M := by
                unfold nowX
                rw [fI 35 (by decide) (by decide) (by decide) (by decide) (by decide) (by decide) (by decide) (by decide) (by decide) (by decide), fI 36 (by decide) (by decide) (by decide) (by decide) (by decide) (by decide) (by decide) (by decide) (by decide) (by decide), fI 37 (by decide) (by decide) (by decide) (by decide) (by decide) (by decide) (by decide) (by decide) (by decide) (by decide)]
              rw [en, fI 41 (by decide) (by decide) (by decide) (by decide) (by decide) (by decide) (by decide) (by decide) (by decide) (by decide), fI 77 (by decide) (by decide) (by decide) (by decide) (by decide) (by decide) (by decide) (by decide) (by decide) (by decide)]
              exact hI.pz.1) ⟨by omega, w47, w60, fun i hi => by
                rw [w48, w49, w50, w51, w81, w82, w83, w84]
                by_cases e : i = k
                · rw [if_pos e, if_pos e, if_pos e, if_pos e, if_pos e, if_pos e, if_pos e, if_pos e]
                  exact ⟨rfl, rfl, rfl, rfl, ⟨cc, hcc, ec⟩, t, t1, t2, et⟩
                · rw [if_neg e, if_neg e, if_neg e, if_neg e, if_neg e, if_neg e, if_neg e, if_neg e]
                  exact kr i (by omega)⟩ (by rw [fI 38 (by decide) (by decide) (by decide) (by decide) (by decide) (by decide) (by decide) (by decide) (by decide) (by decide)]; exact hW.1) (by rw [fI 38 (by decide) (by decide) (by decide) (by decide) (by decide) (by decide) (by decide) (by decide) (by decide) (by decide)]; exact hW.2.2.1) hW.2.1 hW.2.2.2.1 hW.2.2.2.2.2.2.1 hW.2.2.2.2.2.2.2.1 hI.2.2.2.1 (by
              obtain ⟨x1, x2⟩ := hI.2.2.2.2.1
              refine ⟨by rw [f60 32 (by decide)]; exact x1, ?_⟩
              rw [fI 79 (by decide) (by decide) (by decide) (by decide) (by decide) (by decide) (by decide) (by decide) (by decide) (by decide)]
              exact x2) (by rw [fI 41 (by decide) (by decide) (by decide) (by decide) (by decide) (by decide) (by decide) (by decide) (by decide) (by decide)]; exact hI.2.2.2.2.2.2.2.2.1) (by
              rw [fI 16 (by decide) (by decide) (by decide) (by decide) (by decide) (by decide) (by decide) (by decide) (by decide) (by decide), f60 45 (by decide), fI 46 (by decide) (by decide) (by decide) (by decide) (by decide) (by decide) (by decide) (by decide) (by decide) (by decide), fI 42 (by decide) (by decide) (by decide) (by decide) (by decide) (by decide) (by decide) (by decide) (by decide) (by decide), fI 43 (by decide) (by decide) (by decide) (by decide) (by decide) (by decide) (by decide) (by decide) (by decide) (by decide), fI 44 (by decide) (by decide) (by decide) (by decide) (by decide) (by decide) (by decide) (by decide) (by decide) (by decide), fI 85 (by decide) (by decide) (by decide) (by decide) (by decide) (by decide) (by decide) (by decide) (by decide) (by decide)]
              exact hI.2.2.2.2.2.2.2.2.2.1) (by
              rw [fI 16 (by decide) (by decide) (by decide) (by decide) (by decide) (by decide) (by decide) (by decide) (by decide) (by decide), f60 30 (by decide)]
              exact hI.2.2.2.2.2.2.2.2.2.2.2.1)
          refine ⟨nI (k + 1), snX M k c x y w, snM (snX M k c x y w) k c x y w, ?_, ?_, fin.1, _, _, _, _, _, _, _, _, fin.2⟩
          · rw [u_X11_seen]
            (rw [E_hasCook (d + 56) hC.1 c, ra_I]; simp only [Option.bind_some])
            rw [hk, if_neg (show ¬ mb true = 0 by decide)]
            (rw [E_isWithin (d + 58) M 1 x 40, ra_I]; simp only [Option.bind_some])
            rw [hx, if_neg (show ¬ mb true = 0 by decide)]
            (rw [E_isStand (d + 57) M y, ra_I]; simp only [Option.bind_some])
            rw [hy, if_neg (show ¬ mb true = 0 by decide), u_X8_isFull, k47, if_pos lt10, ra_I, Option.bind_some]
            dsimp only
            rw [if_pos rfl, u_X8_add, k47, if_neg (nI_pos (by omega)), if_pos lt10]
            simp only [mm_inb_nI klt (by omega), mm_ble (show 16 ≤ 48 by omega), mm_ble (show 16 ≤ 49 by omega), mm_ble (show 16 ≤ 50 by omega), mm_ble (show 16 ≤ 51 by omega), Bool.and_self, cond_true, nI_clamp (show k < 2 ^ 31 by omega), nI_1, ra_V, Option.bind_some]
            rw [u_X8_size, ra_I, Option.bind_some]
            dsimp only
            rw [I_s, if_pos rfl]
            rfl
          · have g60 : mm_I (snX M k c x y w) 60 43 = nI k := by rw [fX 60 (by decide) (by decide) (by decide) (by decide) (by decide)]; exact k60
            have RT1 : RT (snX M k c x y w) nc nm := hC.1.mv (by rw [fX 16 (by decide) (by decide) (by decide) (by decide) (by decide)]) (fX 34 (by decide) (by decide) (by decide) (by decide) (by decide)) (by rw [fX 60 (by decide) (by decide) (by decide) (by decide) (by decide)]) (by rw [fX 60 (by decide) (by decide) (by decide) (by decide) (by decide)]) (fX 33 (by decide) (by decide) (by decide) (by decide) (by decide)) (fX 74 (by decide) (by decide) (by decide) (by decide) (by decide)) (fX 75 (by decide) (by decide) (by decide) (by decide) (by decide)) (fX 76 (by decide) (by decide) (by decide) (by decide) (by decide))
            rw [u_X12_seen]
            (rw [E_isCook (d + 57) RT1 c, ra_I]; simp only [Option.bind_some])
            rw [hk, if_neg (show ¬ mb true = 0 by decide)]
            (rw [E_in (d + 58) _ x 1 40, ra_I]; simp only [Option.bind_some])
            rw [hx, if_neg (show ¬ mb true = 0 by decide)]
            (rw [E_in (d + 58) _ y 0 99, ra_I]; simp only [Option.bind_some])
            rw [hy, if_neg (show ¬ mb true = 0 by decide), g60, if_neg ne10]
            simp only [mm_inb_nI klt (by omega), mm_ble (show 16 ≤ 81 by omega), mm_ble (show 16 ≤ 82 by omega), mm_ble (show 16 ≤ 83 by omega), mm_ble (show 16 ≤ 84 by omega), Bool.and_self, cond_true, nI_clamp (show k < 2 ^ 31 by omega), nI_1]
            rfl
/-- a minister, where there is such a one -/
theorem M_minister (hC : CT n xs N gv M nc nm) (d : Nat) (x y : Int32) : ∃ v, mm_E n xs N (d + 60) 239 [.ref 60, .int x, .int y] M = some (some (.int v), mm_wI M 60 0 (mb (!(ck nm x && wi 0 y 4)))) ∧ (ck nm x && wi 0 y 4 = true → mm_E n xs N (d + 60) 107 [.ref 16, .int x, .int y] M = some (some (.int v), M)) := by
  have h7 := hC.nm7
  cases hk : ck nm x with
  | false =>
    refine ⟨0, ?_, fun q => by cases q⟩
    rw [u_X12_minister]
    (rw [E_isMin (d + 57) hC.1 x, ra_I]; simp only [Option.bind_some])
    rw [hk, if_pos (show mb false = 0 by decide), if_pos trivial]
    rfl
  | true =>
    cases hw : wi 0 y 4 with
    | false =>
      refine ⟨0, ?_, fun q => by cases q⟩
      rw [u_X12_minister]
      (rw [E_isMin (d + 57) hC.1 x, ra_I]; simp only [Option.bind_some])
      rw [hk, if_neg (show ¬ mb true = 0 by decide)]
      (rw [E_in (d + 58) M y 0 4, ra_I]; simp only [Option.bind_some])
      rw [hw, if_pos (show mb false = 0 by decide), if_pos trivial]
      rfl
    | true =>
      obtain ⟨m, hm, rfl⟩ := ck_t (by omega) hk
      obtain ⟨j, hj, rfl⟩ := wi_t (k := 4) (by decide) hw
      by_cases q : j = 4
      · subst q
        refine ⟨mb (ib (mm_I M 35 2) m), ?_, fun _ => ?_⟩
        · rw [u_X12_minister]
          (rw [E_isMin (d + 57) hC.1 (nI m), ra_I]; simp only [Option.bind_some])
          rw [hk, if_neg (show ¬ mb true = 0 by decide)]
          (rw [E_in (d + 58) M (nI 4) 0 4, ra_I]; simp only [Option.bind_some])
          rw [hw, if_neg (show ¬ mb true = 0 by decide), if_neg (by decide), if_pos (show (4 : Int32) ≤ nI 4 by decide), hC.b10]
          have e : (mm_I M 35 2 >>> (nI m &&& 31)) &&& 1 = mb (ib (mm_I M 35 2) m) := by
            unfold ib
            rcases and1 (mm_I M 35 2 >>> (nI m &&& 31)) with e | e <;> rw [e] <;> decide
          rw [e]
          rfl
        · rw [u_X11_minister]
          (rw [E_hasMin (d + 56) hC.1 (nI m), ra_I]; simp only [Option.bind_some])
          rw [hk, if_neg (show ¬ mb true = 0 by decide)]
          (rw [E_isWithin (d + 58) M 0 (nI 4) 4, ra_I]; simp only [Option.bind_some])
          rw [hw, if_neg (show ¬ mb true = 0 by decide)]
          rw [if_pos (show nI 4 = (4 : Int32) from rfl)]
          (rw [E_isInside (d + 58) M m, ra_I]; simp only [Option.bind_some])
          cases ib (mm_I M 35 2) m <;> rfl
      · refine ⟨mm_I M 33 (12 + m * 4 + j), ?_, fun _ => ?_⟩
        · rw [u_X12_minister]
          (rw [E_isMin (d + 57) hC.1 (nI m), ra_I]; simp only [Option.bind_some])
          rw [hk, if_neg (show ¬ mb true = 0 by decide)]
          (rw [E_in (d + 58) M (nI j) 0 4, ra_I]; simp only [Option.bind_some])
          rw [hw, if_neg (show ¬ mb true = 0 by decide), if_neg (by decide), if_neg (show ¬ (4 : Int32) ≤ nI j from nI_ge (b := 4) (by omega) (by omega)), E_of (d + 58) _ m j (by omega) (by omega), ra_I, Option.bind_some]
          dsimp only
          rw [I_wn (by decide), hC.c76 hm (by omega)]
          rfl
        · rw [u_X11_minister]
          (rw [E_hasMin (d + 56) hC.1 (nI m), ra_I]; simp only [Option.bind_some])
          rw [hk, if_neg (show ¬ mb true = 0 by decide)]
          (rw [E_isWithin (d + 58) M 0 (nI j) 4, ra_I]; simp only [Option.bind_some])
          rw [hw, if_neg (show ¬ mb true = 0 by decide)]
          rw [if_neg (show ¬ nI j = (4 : Int32) from fun e => q ((nI_eq (a := j) (b := 4) (by omega) (by omega)).mp e))]
          (rw [show mm_E n xs N (d + 59) 94 [.ref 32, .int 2, .int (nI m), .int (nI j)] M = _ from E_minI (d + 56) M m j (by omega) (by omega), ra_I]; simp only [Option.bind_some])
end SE
