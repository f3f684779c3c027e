/-! undone, images, the draught, what was seen -/
section UN
variable {n : Nat} {xs : Nat → Int32} {N : Nat} {gv : Int32 → Int32 → Int32 → Int32 → Int32} {M M' M1 M2 : mmM} {nc nm k p z h : Nat} {bs rs : Nat → Nat → Int32} {Dk : Nat → Nat} {im : Bool}
/-- all that may be another, put together again -/
theorem IV.re {k' p' z' : Nat} {bs' rs' : Nat → Nat → Int32} {Dk' : Nat → Nat} {im' : Bool} (hI : IV n xs N gv M nc nm k p z h bs rs Dk im) (hs : M'.1 = M.1) (hn : M'.2.1 = M.2.1) (hz : M'.2.2.1 = M.2.2.1) (hP : M'.2.2.2.2.2 = M.2.2.2.2.2) (hF : ∀ a, atc a = false → mm_I M' a = mm_I M a) (hF2 : ∀ a, a = 25 ∨ a = 54 ∨ a = 55 ∨ a = 57 ∨ a = 78 → mm_I M' a = mm_I M a) (h60 : ∀ q, q ≠ 0 → (q < 30 ∨ q = 31 ∨ 33 ≤ q ∧ q < 35 ∨ 38 < q ∧ q < 43 ∨ q = 44 ∨ 45 < q) → mm_I M' 60 q = mm_I M 60 q) (h16 : ∀ q, q ≠ 17 → q ≠ 18 → mm_I M' 16 q = mm_I M 16 q) (hZ : RZ (mm_I M 33) nc nm (mm_I M' 41) (nowX M') (mm_I M' 77) (Dk' 0)) (hRS : RS M' nc k') (hW2 : mm_I M' 38 2 = nI p') (hW1 : mm_I M' 38 1 = nI z') (hp : p' < 40) (hz' : z' ≤ 40) (hph : p' ≤ h) (hzp : z' ≤ p' ∨ h = 40) (hCP : CP n xs M p' z' bs') (hMP : MP M' z' rs') (hk : ∀ j, j < z' → RZ (mm_I M 33) nc nm (mm_I M' 41) (bs' j) (rs' j) (Dk' (j + 1)) ∧ Dk' (j + 1) ≤ Dk' j ∧ Dk' j ≤ Dk' (j + 1) + 1) (him : mm_I M' 16 17 = mb im' ∧ mm_I M' 60 45 = mb im' ∧ (im' = true → ∃ D, RZ (mm_I M 33) nc nm (mm_I M' 46) (bow (mm_I M' 42) (mm_I M' 43) (mm_I M' 44)) (mm_I M' 85) D)) (hdr : mm_I M' 16 18 = mm_I M' 60 30 ∧ bd 0 9 (mm_I M' 60 30)) : FA n xs M M' ∧ IV n xs N gv M' nc nm k' p' z' h bs' rs' Dk' im' := by
  have u := hI.upd hs hn hP hF (fun q _ => by rw [hF2 25 (by omega)]) h60 h16
  obtain ⟨i1, i2, i3, i4, i5, i6, i7, i8, i9, ⟨i10, i11, i12⟩, i13, ⟨i14, i15⟩, i16, i17, i18, i19⟩ := hI
  have e33 : mm_I M' 33 = mm_I M 33 := hF 33 (by decide)
  have lw : lwN M' = lwN M := by unfold lwN; rw [hF2 25 (by omega)]
  have W' : WR n xs M' p' z' h := i3.mv (fun a _ _ => congrFun hs a) (by rw [show mm_n M' = mm_n M from hn]; exact Nat.le_refl _) (fun a q _ _ => congrFun (congrFun hP a) q) hW2 hW1 hp hz' hph hzp
  have Wm : WR n xs (mm_wI (mm_wI M 38 2 (nI p')) 38 1 (nI z')) p' z' h := i3.mv (fun a _ _ => rfl) (Nat.le_refl _) (fun a q _ _ => rfl) (by rw [I_w, if_pos rfl, if_neg (by decide), I_w, if_pos rfl, if_pos rfl]) (by rw [I_w, if_pos rfl, if_pos rfl]) hp hz' hph hzp
  refine ⟨u.1, u.2.1 ((RB_f i1.nc4).mpr (by rw [e33]; exact hZ.1)), hRS, W', ?_, hMP, hZ.2.1, (nX (by omega)).symm.trans hZ.2.2.1, ⟨hZ.2.2.2.1, hZ.2.2.2.2⟩, by rw [e33]; exact hk, by rw [e33]; exact him, ?_, hdr, ?_, ?_, u.2.2, i19.1, ?_, ?_⟩
  · intro q hq
    obtain ⟨o, e, v⟩ := hCP q hq
    have hix := W'.ix hq
    obtain ⟨o2, e2, B2⟩ := i3.2.2.2.2.2.2.2.2.2.1 _ hix
    have : o2 = o := Option.some.inj (e2.symm.trans e)
    subst this
    have b1 := B2.1
    refine ⟨o2, ?_, fun j hj => ?_⟩
    · rw [p_39] at e ⊢; rw [hP]; exact e
    · rw [hF _ (atc_hi (show 87 ≤ o2 by omega)), hF _ (atc_hi (show 87 ≤ o2 + 1 by omega)), hF _ (atc_hi (show 87 ≤ o2 + 2 by omega))]; exact v j hj
  · rw [hF2 57 (by omega), hF2 78 (by omega)]; exact i13
  · rw [hF2 54 (by omega)]; exact i16
  · rw [hF2 55 (by omega)]; exact i17
  · rw [lw, show mm_n M' = mm_n M from hn]; exact i19.2.1
  · rw [lw, show mm_z M' = mm_z M from hz]; exact i19.2.2
theorem A_undo (hI : IV n xs N gv M nc nm k p z h bs rs Dk im) (d : Nat) : AA n xs N (d + 60) gv nc nm M 139 [.ref 16] 259 [.ref 60] := by
  have hN := hI.nN
  have hC4 := hI.1.nc4
  have hW := hI.2.2.1
  have hCP := hI.2.2.2.1
  have hMP := hI.2.2.2.2.1
  by_cases hz : z = 0
  · refine ⟨-1, M, M, ?_, ?_, XA.rf.fa, _, _, _, _, _, _, _, _, hI⟩
    · rw [u_X11_undo, E_takeX0 (d + 58) hW hz, ra_I, Option.bind_some]
      dsimp only
      rw [if_pos rfl]
    · rw [u_X12_undo, hMP.1, hz, if_pos (show nI 0 = (0 : Int32) from rfl)]
  · obtain ⟨M1, e1, c1, c2, c3, c4, c5, c6, c7, c8, c9⟩ := E_takeX (n := n) (xs := xs) (N := N) (d + 57) hW hCP (by omega)
    have hMP1 : MP M1 z rs := by
      obtain ⟨x1, x2⟩ := hMP
      refine ⟨by rw [c6 60 (by decide) (by decide) (by decide) (by decide)]; exact x1, fun q hq x hx => ?_⟩
      rw [c6 79 (by decide) (by decide) (by decide) (by decide)]; exact x2 q hq x hx
    obtain ⟨M2, e2, s2, r2, mp2⟩ := E_undoM (n := n) (xs := xs) (N := N) hN (d + 59) hW.2.2.2.1 (by omega) hMP1
    have fI : ∀ a, a ≠ 35 → a ≠ 36 → a ≠ 37 → a ≠ 38 → a ≠ 60 → a ≠ 77 → mm_I M2 a = mm_I M a := fun a a1 a2 a3 a4 a5 a6 => (s2.2.2.2.2.2.1 a a6 a5).trans (c6 a a1 a2 a3 a4)
    have f1 : ∀ a, a ≠ 60 → a ≠ 77 → mm_I M2 a = mm_I M1 a := fun a a5 a6 => s2.2.2.2.2.2.1 a a6 a5
    have f60 : ∀ q, q ≠ 32 → mm_I M2 60 q = mm_I M 60 q := fun q hq => by rw [s2.2.2.2.2.2.2 q hq, c6 60 (by decide) (by decide) (by decide) (by decide)]
    have i9 := hI.2.2.2.2.2.2.2.2.1
    obtain ⟨y1, y2, y3⟩ := i9 0 (by omega)
    have e41 : mm_I M2 41 = mm_I M 41 := fI 41 (by decide) (by decide) (by decide) (by decide) (by decide) (by decide)
    have hZ : RZ (mm_I M 33) nc nm (mm_I M2 41) (nowX M2) (mm_I M2 77) (Dk 1) := by
      rw [e41]
      refine y1.cg hC4 rfl (fun j hj => ?_) (fun x hx => r2 x hx) (fun _ _ _ _ => rfl)
      rw [← c9 j hj]
      unfold nowX
      rw [f1 35 (by decide) (by decide), f1 36 (by decide) (by decide), f1 37 (by decide) (by decide)]
    have w2 := hW.2.1
    have w4 := hW.2.2.2.1
    have w7 := hW.2.2.2.2.2.2.1
    have w8 := hW.2.2.2.2.2.2.2.1
    have fin := hI.re (M' := M2) (k' := k) (p' := (p + 39) % 40) (z' := z - 1) (bs' := fun q => bs (q + 1)) (rs' := fun q => rs (q + 1)) (Dk' := fun j => Dk (j + 1)) (im' := im) (s2.1.trans c1) (s2.2.1.trans c2) (s2.2.2.1.trans c3) (s2.2.2.2.2.1.trans c5) (fun a ha => fI a (atc_ne ha (by decide)) (atc_ne ha (by decide)) (atc_ne ha (by decide)) (atc_ne ha (by decide)) (atc_ne ha (by decide)) (atc_ne ha (by decide))) (fun a ha => fI a (by omega) (by omega) (by omega) (by omega) (by omega) (by omega)) (fun q _ hq => f60 q (by omega)) (fun q _ _ => by rw [fI 16 (by decide) (by decide) (by decide) (by decide) (by decide) (by decide)]) hZ (by
        have i2 := hI.2.1
        unfold RS at i2 ⊢
        rw [fI 47 (by decide) (by decide) (by decide) (by decide) (by decide) (by decide), fI 48 (by decide) (by decide) (by decide) (by decide) (by decide) (by decide), fI 49 (by decide) (by decide) (by decide) (by decide) (by decide) (by decide), fI 50 (by decide) (by decide) (by decide) (by decide) (by decide) (by decide), fI 51 (by decide) (by decide) (by decide) (by decide) (by decide) (by decide), fI 81 (by decide) (by decide) (by decide) (by decide) (by decide) (by decide), fI 82 (by decide) (by decide) (by decide) (by decide) (by decide) (by decide), fI 83 (by decide) (by decide) (by decide) (by decide) (by decide) (by decide), fI 84 (by decide) (by decide) (by decide) (by decide) (by decide) (by decide), f60 43 (by decide)]
        exact i2) (by rw [f1 38 (by decide) (by decide)]; exact c7) (by rw [f1 38 (by decide) (by decide)]; exact c8) (by omega) (by omega) (by omega) (by omega) (hCP.sh w2 w4 (by omega)) mp2 (fun j hj => by rw [e41]; exact i9 (j + 1) (by omega)) (by
        rw [fI 16 (by decide) (by decide) (by decide) (by decide) (by decide) (by decide), f60 45 (by decide), fI 46 (by decide) (by decide) (by decide) (by decide) (by decide) (by decide), fI 42 (by decide) (by decide) (by decide) (by decide) (by decide) (by decide), fI 43 (by decide) (by decide) (by decide) (by decide) (by decide) (by decide), fI 44 (by decide) (by decide) (by decide) (by decide) (by decide) (by decide), fI 85 (by decide) (by decide) (by decide) (by decide) (by decide) (by decide)]
        exact hI.2.2.2.2.2.2.2.2.2.1) (by
        rw [fI 16 (by decide) (by decide) (by decide) (by decide) (by decide) (by decide), f60 30 (by decide)]
        exact hI.2.2.2.2.2.2.2.2.2.2.2.1)
    refine ⟨nI (z - 1), M1, M2, ?_, e2, fin.1, _, _, _, _, _, _, _, _, fin.2⟩
    rw [u_X11_undo, e1, ra_I, Option.bind_some]
    dsimp only
    rw [if_neg (by decide), u_X6_size, c8, ra_I, Option.bind_some]
theorem A_draught (hI : IV n xs N gv M nc nm k p z h bs rs Dk im) (d : Nat) (x : Int32) : AA n xs N (d + 60) gv nc nm M 136 [.ref 16, .int x] 254 [.ref 60, .int x] := by
  obtain ⟨g1, g2⟩ := hI.2.2.2.2.2.2.2.2.2.2.2.1
  cases hw : wi 0 x 9 with
  | false =>
    refine ⟨0, M, M, ?_, ?_, XA.rf.fa, _, _, _, _, _, _, _, _, hI⟩
    · rw [u_X11_draught]
      (rw [E_isWithin (d + 58) M 0 x 9, ra_I]; simp only [Option.bind_some])
      rw [hw, if_pos (show mb false = 0 by decide)]
    · rw [u_X12_draught]
      (rw [E_in (d + 58) M x 0 9, ra_I]; simp only [Option.bind_some])
      rw [hw, if_pos (show mb false = 0 by decide)]
  | true =>
    by_cases q : x = mm_I M 60 30
    · refine ⟨0, M, M, ?_, ?_, XA.rf.fa, _, _, _, _, _, _, _, _, hI⟩
      · rw [u_X11_draught]
        (rw [E_isWithin (d + 58) M 0 x 9, ra_I]; simp only [Option.bind_some])
        rw [hw, if_neg (show ¬ mb true = 0 by decide), g1, if_pos q]
      · rw [u_X12_draught]
        (rw [E_in (d + 58) M x 0 9, ra_I]; simp only [Option.bind_some])
        rw [hw, if_neg (show ¬ mb true = 0 by decide), if_pos q]
    · have fI : ∀ a, a ≠ 16 → a ≠ 60 → mm_I (mm_wI (mm_wI M 16 18 x) 60 30 x) a = mm_I M a := fun a a1 a2 => by rw [I_wn a2, I_wn a1]
      have f60 : ∀ q, q ≠ 30 → mm_I (mm_wI (mm_wI M 16 18 x) 60 30 x) 60 q = mm_I M 60 q := fun q hq => by rw [I_w, if_pos rfl, if_neg hq, I_wn (by decide)]
      have f16 : ∀ q, q ≠ 18 → mm_I (mm_wI (mm_wI M 16 18 x) 60 30 x) 16 q = mm_I M 16 q := fun q hq => by rw [I_wn (by decide), I_w, if_pos rfl, if_neg hq]
      have hW := hI.2.2.1
      have fin := hI.re (M' := mm_wI (mm_wI M 16 18 x) 60 30 x) (k' := k) (p' := p) (z' := z) (bs' := bs) (rs' := rs) (Dk' := Dk) (im' := im) rfl rfl rfl rfl (fun a ha => fI a (atc_ne ha (by decide)) (atc_ne ha (by decide))) (fun a ha => fI a (by omega) (by omega)) (fun q _ hq => f60 q (by omega)) (fun q _ hq => f16 q hq) (by
          rw [fI 41 (by decide) (by decide), fI 77 (by decide) (by decide)]
          exact hI.pz.1) (by
          have i2 := hI.2.1
          unfold RS at i2 ⊢
          rw [fI 47 (by decide) (by decide), fI 48 (by decide) (by decide), fI 49 (by decide) (by decide), fI 50 (by decide) (by decide), fI 51 (by decide) (by decide), fI 81 (by decide) (by decide), fI 82 (by decide) (by decide), fI 83 (by decide) (by decide), fI 84 (by decide) (by decide), f60 43 (by decide)]
          exact i2) (by rw [fI 38 (by decide) (by decide)]; exact hW.1) (by rw [fI 38 (by decide) (by decide)]; exact hW.2.2.1) hW.2.1 hW.2.2.2.1 hW.2.2.2.2.2.2.1 hW.2.2.2.2.2.2.2.1 hI.2.2.2.1 (by
          obtain ⟨x1, x2⟩ := hI.2.2.2.2.1
          refine ⟨by rw [f60 32 (by decide)]; exact x1, ?_⟩
          rw [fI 79 (by decide) (by decide)]
          exact x2) (by rw [fI 41 (by decide) (by decide)]; exact hI.2.2.2.2.2.2.2.2.1) (by
          rw [f16 17 (by decide), f60 45 (by decide), fI 46 (by decide) (by decide), fI 42 (by decide) (by decide), fI 43 (by decide) (by decide), fI 44 (by decide) (by decide), fI 85 (by decide) (by decide)]
          exact hI.2.2.2.2.2.2.2.2.2.1) (by
          have e : mm_I (mm_wI (mm_wI M 16 18 x) 60 30 x) 60 30 = x := by rw [I_w, if_pos rfl, if_pos rfl]
          refine ⟨?_, ?_⟩
          · rw [e, I_wn (by decide), I_w, if_pos rfl, if_pos rfl]
          · rw [e]
            obtain ⟨j, hj, rfl⟩ := wi_t (k := 9) (by decide) hw
            exact nI_bd (h := 9) hj (by omega))
      refine ⟨1, mm_wI M 16 18 x, mm_wI (mm_wI M 16 18 x) 60 30 x, ?_, ?_, fin.1, _, _, _, _, _, _, _, _, fin.2⟩
      · rw [u_X11_draught]
        (rw [E_isWithin (d + 58) M 0 x 9, ra_I]; simp only [Option.bind_some])
        rw [hw, if_neg (show ¬ mb true = 0 by decide), g1, if_neg q]
      · rw [u_X12_draught]
        (rw [E_in (d + 58) _ x 0 9, ra_I]; simp only [Option.bind_some])
        rw [hw, if_neg (show ¬ mb true = 0 by decide), I_wn (show 60 ≠ 16 by decide), if_neg q]
/-- the bowl and the diary of the image -/
theorem cp300 {f g : Nat → Int32} {j : Nat} (hj : j < 300) : va_cpy f g (0 : Int32).toNatClampNeg (0 : Int32).toNatClampNeg (Int32.ofNat 300).toNatClampNeg j = f j := by
  have := pk_cpy_in (f := f) (g := g) (sp := 0) (dp := 0) (n := 300) (j := j) (by omega) (by omega)
  rw [Nat.zero_add, Nat.sub_zero] at this
  exact this
theorem E_copy42 (d : Nat) (M : mmM) : ∃ M1, mm_E n xs N (d + 1) 3 [.ref 42, .ref 35] M = some (none, M1) ∧ M1.1 = M.1 ∧ M1.2.1 = M.2.1 ∧ M1.2.2.1 = M.2.2.1 ∧ M1.2.2.2.2.2 = M.2.2.2.2.2 ∧ (∀ a, a ≠ 42 → a ≠ 43 → a ≠ 44 → mm_I M1 a = mm_I M a) ∧ (∀ j, j ≤ 8 → mm_I M1 42 j = mm_I M 35 j) ∧ ∀ j, j < 4 → mm_I M1 43 j = mm_I M 36 j ∧ mm_I M1 44 j = mm_I M 37 j := by
  rw [u_X0_copyFrom_42_35, cpc (show 16 ≤ 36 by omega) (show 16 ≤ 43 by omega), cpc (show 16 ≤ 37 by omega) (show 16 ≤ 44 by omega), cond_true, cond_true]
  refine ⟨_, rfl, rfl, rfl, rfl, rfl, fun a a1 a2 a3 => ?_, fun j hj => ?_, fun j hj => ⟨?_, ?_⟩⟩
  · rw [I_R, if_neg a3, I_R, if_neg a2, I_wn a1, I_wn a1, I_wn a1, I_wn a1, I_wn a1, I_wn a1, I_wn a1, I_wn a1, I_wn a1]
  · rw [I_R, if_neg (by decide), I_R, if_neg (by decide), I_s, I_s, I_s, I_s, I_s, I_s, I_s, I_s, I_s]
    rcases (show j = 0 ∨ j = 1 ∨ j = 2 ∨ j = 3 ∨ j = 4 ∨ j = 5 ∨ j = 6 ∨ j = 7 ∨ j = 8 by omega) with rfl | rfl | rfl | rfl | rfl | rfl | rfl | rfl | rfl <;> simp
  · rw [I_R, if_neg (by decide), I_R, if_pos rfl, cp4 hj, I_wn (by decide), I_wn (by decide), I_wn (by decide), I_wn (by decide), I_wn (by decide), I_wn (by decide), I_wn (by decide), I_wn (by decide), I_wn (by decide)]
  · rw [I_R, if_pos rfl, cp4 hj, I_R, if_neg (by decide), I_wn (by decide), I_wn (by decide), I_wn (by decide), I_wn (by decide), I_wn (by decide), I_wn (by decide), I_wn (by decide), I_wn (by decide), I_wn (by decide)]
theorem E_copy35 (d : Nat) (M : mmM) : ∃ M1, mm_E n xs N (d + 1) 3 [.ref 35, .ref 42] M = some (none, M1) ∧ M1.1 = M.1 ∧ M1.2.1 = M.2.1 ∧ M1.2.2.1 = M.2.2.1 ∧ M1.2.2.2.2.2 = M.2.2.2.2.2 ∧ (∀ a, a ≠ 35 → a ≠ 36 → a ≠ 37 → mm_I M1 a = mm_I M a) ∧ (∀ j, j ≤ 8 → mm_I M1 35 j = mm_I M 42 j) ∧ ∀ j, j < 4 → mm_I M1 36 j = mm_I M 43 j ∧ mm_I M1 37 j = mm_I M 44 j := by
  rw [u_X0_copyFrom_35_42, cpc (show 16 ≤ 43 by omega) (show 16 ≤ 36 by omega), cpc (show 16 ≤ 44 by omega) (show 16 ≤ 37 by omega), cond_true, cond_true]
  refine ⟨_, rfl, rfl, rfl, rfl, rfl, fun a a1 a2 a3 => ?_, fun j hj => ?_, fun j hj => ⟨?_, ?_⟩⟩
  · rw [I_R, if_neg a3, I_R, if_neg a2, I_wn a1, I_wn a1, I_wn a1, I_wn a1, I_wn a1, I_wn a1, I_wn a1, I_wn a1, I_wn a1]
  · rw [I_R, if_neg (by decide), I_R, if_neg (by decide), I_s, I_s, I_s, I_s, I_s, I_s, I_s, I_s, I_s]
    rcases (show j = 0 ∨ j = 1 ∨ j = 2 ∨ j = 3 ∨ j = 4 ∨ j = 5 ∨ j = 6 ∨ j = 7 ∨ j = 8 by omega) with rfl | rfl | rfl | rfl | rfl | rfl | rfl | rfl | rfl <;> simp
  · rw [I_R, if_neg (by decide), I_R, if_pos rfl, cp4 hj, I_wn (by decide), I_wn (by decide), I_wn (by decide), I_wn (by decide), I_wn (by decide), I_wn (by decide), I_wn (by decide), I_wn (by decide), I_wn (by decide)]
  · rw [I_R, if_pos rfl, cp4 hj, I_R, if_neg (by decide), I_wn (by decide), I_wn (by decide), I_wn (by decide), I_wn (by decide), I_wn (by decide), I_wn (by decide), I_wn (by decide), I_wn (by decide), I_wn (by decide)]
theorem cpc3 {a b : Nat} (ha : 16 ≤ a) (hb : 16 ≤ b) : (Nat.ble (mm_cat []) 8 && (Nat.ble 16 a && (Nat.ble 16 b && (!decide (Int32.ofNat 300 < 0) && (!decide ((0 : Int32) < 0) && (!decide ((0 : Int32) < 0) && (Nat.ble ((0 : Int32).toNatClampNeg + (Int32.ofNat 300).toNatClampNeg) 300 && Nat.ble ((0 : Int32).toNatClampNeg + (Int32.ofNat 300).toNatClampNeg) 300))))))) = true := by
  rw [mm_ble ha, mm_ble hb]
  decide
theorem A_image (hI : IV n xs N gv M nc nm k p z h bs rs Dk im) (d : Nat) : AA n xs N (d + 60) gv nc nm M 173 [.ref 16] 295 [.ref 60] := by
  have hC := hI.ct
  have hN := hI.nN
  by_cases h0 : nm = 0
  · refine ⟨-1, M, M, ?_, ?_, XA.rf.fa, _, _, _, _, _, _, _, _, hI⟩
    · rw [u_X11_image, if_pos (hC.X0 h0).1]
    · rw [u_X12_image, if_pos (hC.X0 h0).2]
  · obtain ⟨M1, e1, c1, c2, c3, c5, c6, c7, c8⟩ := E_copy42 (n := n) (xs := xs) (N := N) (d + 58) M
    have e2 : mm_E n xs N (d + 59) 47 [.ref 45, .ref 40] M1 = some (none, mm_wR M1 46 (va_cpy (mm_I M1 41) (mm_I M1 46) (0 : Int32).toNatClampNeg (0 : Int32).toNatClampNeg (Int32.ofNat 300).toNatClampNeg)) := by
      rw [u_X5_copyFrom_45_40, cpc3 (show 16 ≤ 41 by omega) (show 16 ≤ 46 by omega), cond_true]
    obtain ⟨M2, e3, s3, r3, r45⟩ := E_imageM (n := n) (xs := xs) (N := N) (M := mm_wI (mm_wR M1 46 (va_cpy (mm_I M1 41) (mm_I M1 46) (0 : Int32).toNatClampNeg (0 : Int32).toNatClampNeg (Int32.ofNat 300).toNatClampNeg)) 16 17 1) hN (d + 59) (by
      rw [I_wn (by decide), I_R, if_neg (by decide), c6 60 (by decide) (by decide) (by decide)]
      exact (hC.X1 h0).2)
    have g : ∀ a, a ≠ 16 → a ≠ 46 → a ≠ 42 → a ≠ 43 → a ≠ 44 → mm_I (mm_wI (mm_wR M1 46 (va_cpy (mm_I M1 41) (mm_I M1 46) (0 : Int32).toNatClampNeg (0 : Int32).toNatClampNeg (Int32.ofNat 300).toNatClampNeg)) 16 17 1) a = mm_I M a := fun a a1 a2 a3 a4 a5 => by rw [I_wn a1, I_R, if_neg a2, c6 a a3 a4 a5]
    have fI : ∀ a, a ≠ 16 → a ≠ 46 → a ≠ 42 → a ≠ 43 → a ≠ 44 → a ≠ 60 → a ≠ 85 → mm_I M2 a = mm_I M a := fun a a1 a2 a3 a4 a5 a6 a7 => (s3.2.2.2.2.2.1 a a7 a6).trans (g a a1 a2 a3 a4 a5)
    have f60 : ∀ q, q ≠ 45 → mm_I M2 60 q = mm_I M 60 q := fun q hq => by rw [s3.2.2.2.2.2.2 q hq, g 60 (by decide) (by decide) (by decide) (by decide) (by decide)]
    have f16 : ∀ q, mm_I M2 16 q = if q = 17 then 1 else mm_I M 16 q := fun q => by rw [s3.2.2.2.2.2.1 16 (by decide) (by decide), I_w, if_pos rfl, I_R, if_neg (show ¬ 16 = 46 by decide), c6 16 (by decide) (by decide) (by decide)]
    have m1 : ∀ a, a = 42 ∨ a = 43 ∨ a = 44 → mm_I M2 a = mm_I M1 a := fun a ha => by rw [s3.2.2.2.2.2.1 a (by omega) (by omega), I_wn (by omega), I_R, if_neg (by omega)]
    have m46 : ∀ j, j < 300 → mm_I M2 46 j = mm_I M 41 j := fun j hj => by rw [s3.2.2.2.2.2.1 46 (by decide) (by decide), I_wn (by decide), I_R, if_pos rfl, cp300 hj, c6 41 (by decide) (by decide) (by decide)]
    have r85 : ∀ x, x < 198 → mm_I M2 85 x = mm_I M 77 x := fun x hx => by rw [r3 x hx, g 77 (by decide) (by decide) (by decide) (by decide) (by decide)]
    have hW := hI.2.2.1
    have fin := hI.re (M' := M2) (k' := k) (p' := p) (z' := z) (bs' := bs) (rs' := rs) (Dk' := Dk) (im' := true) (s3.1.trans c1) (s3.2.1.trans c2) (s3.2.2.1.trans c3) (s3.2.2.2.2.1.trans c5) (fun a ha => fI a (atc_ne ha (by decide)) (atc_ne ha (by decide)) (atc_ne ha (by decide)) (atc_ne ha (by decide)) (atc_ne ha (by decide)) (atc_ne ha (by decide)) (atc_ne ha (by decide))) (fun a ha => fI a (by omega) (by omega) (by omega) (by omega) (by omega) (by omega) (by omega)) (fun q _ hq => f60 q (by omega)) (fun q hq _ => by rw [f16, if_neg hq]) (by
        have en : nowX M2 = nowX M := by
          unfold nowX
          rw [fI 35 (by decide) (by decide) (by decide) (by decide) (by decide) (by decide) (by decide), fI 36 (by decide) (by decide) (by decide) (by decide) (by decide) (by decide) (by decide), fI 37 (by decide) (by decide) (by decide) (by decide) (by decide) (by decide) (by decide)]
        rw [en, fI 41 (by decide) (by decide) (by decide) (by decide) (by decide) (by decide) (by decide), fI 77 (by decide) (by decide) (by decide) (by decide) (by decide) (by decide) (by decide)]
        exact hI.pz.1) (by
        have i2 := hI.2.1
        unfold RS at i2 ⊢
        rw [fI 47 (by decide) (by decide) (by decide) (by decide) (by decide) (by decide) (by decide), fI 48 (by decide) (by decide) (by decide) (by decide) (by decide) (by decide) (by decide), fI 49 (by decide) (by decide) (by decide) (by decide) (by decide) (by decide) (by decide), fI 50 (by decide) (by decide) (by decide) (by decide) (by decide) (by decide) (by decide), fI 51 (by decide) (by decide) (by decide) (by decide) (by decide) (by decide) (by decide), fI 81 (by decide) (by decide) (by decide) (by decide) (by decide) (by decide) (by decide), fI 82 (by decide) (by decide) (by decide) (by decide) (by decide) (by decide) (by decide), fI 83 (by decide) (by decide) (by decide) (by decide) (by decide) (by decide) (by decide), fI 84 (by decide) (by decide) (by decide) (by decide) (by decide) (by decide) (by decide), f60 43 (by decide)]
        exact i2) (by rw [fI 38 (by decide) (by decide) (by decide) (by decide) (by decide) (by decide) (by decide)]; exact hW.1) (by rw [fI 38 (by decide) (by decide) (by decide) (by decide) (by decide) (by decide) (by decide)]; exact hW.2.2.1) hW.2.1 hW.2.2.2.1 hW.2.2.2.2.2.2.1 hW.2.2.2.2.2.2.2.1 hI.2.2.2.1 (by
        obtain ⟨x1, x2⟩ := hI.2.2.2.2.1
        refine ⟨by rw [f60 32 (by decide)]; exact x1, ?_⟩
        rw [fI 79 (by decide) (by decide) (by decide) (by decide) (by decide) (by decide) (by decide)]
        exact x2) (by rw [fI 41 (by decide) (by decide) (by decide) (by decide) (by decide) (by decide) (by decide)]; exact hI.2.2.2.2.2.2.2.2.1) (by
        refine ⟨by rw [f16, if_pos rfl]; rfl, r45, fun _ => ⟨Dk 0, ?_⟩⟩
        refine hI.pz.1.cg hC.nc4 rfl (fun j hj => ?_) r85 (fun i w hi hw => m46 _ (by omega))
        rw [m1 42 (by omega), m1 43 (by omega), m1 44 (by omega)]
        exact bow_cg c7 c8 hj) (by
        rw [f16, if_neg (by decide), f60 30 (by decide)]
        exact hI.2.2.2.2.2.2.2.2.2.2.2.1)
    refine ⟨mm_I M 35 8, mm_wI (mm_wR M1 46 (va_cpy (mm_I M1 41) (mm_I M1 46) (0 : Int32).toNatClampNeg (0 : Int32).toNatClampNeg (Int32.ofNat 300).toNatClampNeg)) 16 17 1, M2, ?_, ?_, fin.1, _, _, _, _, _, _, _, _, fin.2⟩
    · rw [u_X11_image, if_neg (hC.X1 h0).1, e1, ra_V, Option.bind_some, e2, ra_V, Option.bind_some, I_R, if_neg (by decide), c6 35 (by decide) (by decide) (by decide)]
    · rw [e3, g 77 (by decide) (by decide) (by decide) (by decide) (by decide), hC.b16]
theorem A_back (hI : IV n xs N gv M nc nm k p z h bs rs Dk im) (d : Nat) : AA n xs N (d + 60) gv nc nm M 174 [.ref 16] 296 [.ref 60] := by
  have hC := hI.ct
  have hN := hI.nN
  obtain ⟨m1, m2, m3⟩ := hI.2.2.2.2.2.2.2.2.2.1
  cases hm : im with
  | false =>
    rw [hm] at m1 m2
    refine ⟨-1, M, M, ?_, ?_, XA.rf.fa, _, _, _, _, _, _, _, _, hI⟩
    · rw [u_X11_back, m1, if_pos (show mb false = 0 by decide)]
    · rw [u_X12_back, m2, if_pos (show mb false = 0 by decide)]
  | true =>
    obtain ⟨D, hZ0⟩ := m3 hm
    rw [hm] at m1 m2
    obtain ⟨M1, e1, c1, c2, c3, c5, c6, c7, c8⟩ := E_copy35 (n := n) (xs := xs) (N := N) (d + 58) M
    have e2 : mm_E n xs N (d + 59) 47 [.ref 40, .ref 45] M1 = some (none, mm_wR M1 41 (va_cpy (mm_I M1 46) (mm_I M1 41) (0 : Int32).toNatClampNeg (0 : Int32).toNatClampNeg (Int32.ofNat 300).toNatClampNeg)) := by
      rw [u_X5_copyFrom_40_45, cpc3 (show 16 ≤ 46 by omega) (show 16 ≤ 41 by omega), cond_true]
    have g : ∀ a, a ≠ 38 → a ≠ 41 → a ≠ 35 → a ≠ 36 → a ≠ 37 → mm_I (mm_wI (mm_wR M1 41 (va_cpy (mm_I M1 46) (mm_I M1 41) (0 : Int32).toNatClampNeg (0 : Int32).toNatClampNeg (Int32.ofNat 300).toNatClampNeg)) 38 1 0) a = mm_I M a := fun a a1 a2 a3 a4 a5 => by rw [I_wn a1, I_R, if_neg a2, c6 a a3 a4 a5]
    obtain ⟨M2, e3, s3, r3, r45⟩ := E_backM (n := n) (xs := xs) (N := N) (M := mm_wI (mm_wR M1 41 (va_cpy (mm_I M1 46) (mm_I M1 41) (0 : Int32).toNatClampNeg (0 : Int32).toNatClampNeg (Int32.ofNat 300).toNatClampNeg)) 38 1 0) (rs := rs) hN (d + 59) (by
      rw [g 60 (by decide) (by decide) (by decide) (by decide) (by decide), m2]
      decide)
    have fI : ∀ a, a ≠ 38 → a ≠ 41 → a ≠ 35 → a ≠ 36 → a ≠ 37 → a ≠ 60 → a ≠ 77 → mm_I M2 a = mm_I M a := fun a a1 a2 a3 a4 a5 a6 a7 => (s3.2.2.2.2.2.1 a a7 a6).trans (g a a1 a2 a3 a4 a5)
    have f60 : ∀ q, q ≠ 32 → mm_I M2 60 q = mm_I M 60 q := fun q hq => by rw [s3.2.2.2.2.2.2 q hq, g 60 (by decide) (by decide) (by decide) (by decide) (by decide)]
    have m1' : ∀ a, a = 35 ∨ a = 36 ∨ a = 37 → mm_I M2 a = mm_I M1 a := fun a ha => by rw [s3.2.2.2.2.2.1 a (by omega) (by omega), I_wn (by omega), I_R, if_neg (by omega)]
    have m41 : ∀ j, j < 300 → mm_I M2 41 j = mm_I M 46 j := fun j hj => by rw [s3.2.2.2.2.2.1 41 (by decide) (by decide), I_wn (by decide), I_R, if_pos rfl, cp300 hj, c6 46 (by decide) (by decide) (by decide)]
    have m38 : ∀ q, mm_I M2 38 q = if q = 1 then 0 else mm_I M 38 q := fun q => by rw [s3.2.2.2.2.2.1 38 (by decide) (by decide), I_w, if_pos rfl, I_R, if_neg (show ¬ 38 = 41 by decide), c6 38 (by decide) (by decide) (by decide)]
    have r77 : ∀ x, x < 198 → mm_I M2 77 x = mm_I M 85 x := fun x hx => by rw [r3 x hx, g 85 (by decide) (by decide) (by decide) (by decide) (by decide)]
    have hW := hI.2.2.1
    have hZ : RZ (mm_I M 33) nc nm (mm_I M2 41) (nowX M2) (mm_I M2 77) D := by
      refine hZ0.cg hC.nc4 rfl (fun j hj => ?_) r77 (fun i w hi hw => m41 _ (by omega))
      unfold nowX
      rw [m1' 35 (by omega), m1' 36 (by omega), m1' 37 (by omega)]
      exact bow_cg c7 c8 hj
    have fin := hI.re (M' := M2) (k' := k) (p' := p) (z' := 0) (bs' := bs) (rs' := rs) (Dk' := fun _ => D) (im' := true) (s3.1.trans c1) (s3.2.1.trans c2) (s3.2.2.1.trans c3) (s3.2.2.2.2.1.trans c5) (fun a ha => fI a (atc_ne ha (by decide)) (atc_ne ha (by decide)) (atc_ne ha (by decide)) (atc_ne ha (by decide)) (atc_ne ha (by decide)) (atc_ne ha (by decide)) (atc_ne ha (by decide))) (fun a ha => fI a (by omega) (by omega) (by omega) (by omega) (by omega) (by omega) (by omega)) (fun q _ hq => f60 q (by omega)) (fun q _ _ => by rw [fI 16 (by decide) (by decide) (by decide) (by decide) (by decide) (by decide) (by decide)]) hZ (by
        have i2 := hI.2.1
        unfold RS at i2 ⊢
        rw [fI 47 (by decide) (by decide) (by decide) (by decide) (by decide) (by decide) (by decide), fI 48 (by decide) (by decide) (by decide) (by decide) (by decide) (by decide) (by decide), fI 49 (by decide) (by decide) (by decide) (by decide) (by decide) (by decide) (by decide), fI 50 (by decide) (by decide) (by decide) (by decide) (by decide) (by decide) (by decide), fI 51 (by decide) (by decide) (by decide) (by decide) (by decide) (by decide) (by decide), fI 81 (by decide) (by decide) (by decide) (by decide) (by decide) (by decide) (by decide), fI 82 (by decide) (by decide) (by decide) (by decide) (by decide) (by decide) (by decide), fI 83 (by decide) (by decide) (by decide) (by decide) (by decide) (by decide) (by decide), fI 84 (by decide) (by decide) (by decide) (by decide) (by decide) (by decide) (by decide), f60 43 (by decide)]
        exact i2) (by rw [m38, if_neg (by decide)]; exact hW.1) (by rw [m38, if_pos rfl]; rfl) hW.2.1 (by omega) hW.2.2.2.2.2.2.1 (Or.inl (by omega)) (fun q hq => by omega) r45 (fun j hj => by omega) (by
        rw [fI 16 (by decide) (by decide) (by decide) (by decide) (by decide) (by decide) (by decide), f60 45 (by decide), fI 46 (by decide) (by decide) (by decide) (by decide) (by decide) (by decide) (by decide), fI 42 (by decide) (by decide) (by decide) (by decide) (by decide) (by decide) (by decide), fI 43 (by decide) (by decide) (by decide) (by decide) (by decide) (by decide) (by decide), fI 44 (by decide) (by decide) (by decide) (by decide) (by decide) (by decide) (by decide), fI 85 (by decide) (by decide) (by decide) (by decide) (by decide) (by decide) (by decide)]
        exact ⟨m1, m2, fun _ => ⟨D, hZ0⟩⟩) (by
        rw [fI 16 (by decide) (by decide) (by decide) (by decide) (by decide) (by decide) (by decide), f60 30 (by decide)]
        exact hI.2.2.2.2.2.2.2.2.2.2.2.1)
    have e4 : mm_E n xs N (d + 59) 51 [.ref 38] (mm_wR M1 41 (va_cpy (mm_I M1 46) (mm_I M1 41) (0 : Int32).toNatClampNeg (0 : Int32).toNatClampNeg (Int32.ofNat 300).toNatClampNeg)) = some (none, mm_wI (mm_wR M1 41 (va_cpy (mm_I M1 46) (mm_I M1 41) (0 : Int32).toNatClampNeg (0 : Int32).toNatClampNeg (Int32.ofNat 300).toNatClampNeg)) 38 1 0) := u_X6_clear n xs N (d + 58) _
    refine ⟨mm_I M 42 8, mm_wI (mm_wR M1 41 (va_cpy (mm_I M1 46) (mm_I M1 41) (0 : Int32).toNatClampNeg (0 : Int32).toNatClampNeg (Int32.ofNat 300).toNatClampNeg)) 38 1 0, M2, ?_, ?_, fin.1, _, _, _, _, _, _, _, _, fin.2⟩
    · rw [u_X11_back, m1, if_neg (show ¬ mb true = 0 by decide), e1, ra_V, Option.bind_some, e2, ra_V, Option.bind_some, e4, ra_V, Option.bind_some, I_wn (show 35 ≠ 38 by decide), I_R, if_neg (by decide), c7 8 (by omega)]
    · rw [e3, g 85 (by decide) (by decide) (by decide) (by decide) (by decide), hZ0.1.2.2.2.2.2.2.2.2.1, show bow (mm_I M 42) (mm_I M 43) (mm_I M 44) 8 = mm_I M 42 8 from bow_b (by omega)]
end UN
