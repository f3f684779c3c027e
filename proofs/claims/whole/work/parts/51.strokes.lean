/-! strokes -/
def ws (gv : Int32 → Int32 → Int32 → Int32 → Int32) (w y : Int32) : Nat → Int32 × Int32 → Int32 × Int32
  | 0, q => q
  | j + 1, q => ws gv w y j (stk gv w q.1 q.2 y, q.2 + 1)
theorem RLf.hi {dy r r' : Nat → Int32} {D : Nat} (h : RLf dy r D) (hr : ∀ x, 17 ≤ x → r' x = r x) : RLf dy r' D := by
  refine ⟨by rw [hr 17 (by omega)]; exact h.1, fun i w hi hw => ?_⟩
  rw [hr _ (by omega)]
  exact h.2 i w hi hw
theorem bd_succ {x : Int32} {b : Nat} (hb : b < 1000000) (h : bd 0 b x) : bd 0 (b + 1 : Nat) (x + 1) := by
  unfold bd at h ⊢
  have e : (1 : Int32).toInt = 1 := by decide
  rw [t_add (by omega) (by omega)]
  omega
section ST
variable {n : Nat} {xs : Nat → Int32} {N : Nat} {gv : Int32 → Int32 → Int32 → Int32 → Int32} {B M M' Ma M1 Mb M2 : mmM} {nc nm k p z h h1 o : Nat} {bs rs : Nat → Nat → Int32} {Dk : Nat → Nat} {im : Bool}
theorem ws_bd (w y : Int32) : ∀ (j : Nat) (q : Int32 × Int32), bd 0 99 q.1 → bd 0 99 (ws gv w y j q).1
  | 0, q, h => h
  | j + 1, q, _ => ws_bd w y j _ (stk_bd _ _ _ _)
theorem ws_2 (w y : Int32) : ∀ (j : Nat) (q : Int32 × Int32), (ws gv w y j q).2 = q.2 + nI j
  | 0, q => by
    show q.2 = q.2 + nI 0
    rw [nI_0, Int32.add_zero]
  | j + 1, q => by
    show (ws gv w y j _).2 = _
    rw [ws_2 w y j]
    show q.2 + 1 + nI j = _
    rw [Int32.add_assoc, Int32.add_comm 1 (nI j), nI_1]
/-- the model's row behind the strokes -/
theorem nwj_ws {c : Nat} (hc : c < 4) : ∀ (j : Nat) (r : Nat → Int32), nwj gv c j r 8 = (ws gv (r c) (r 12) j (r 8, r 9)).1 ∧ nwj gv c j r 9 = (ws gv (r c) (r 12) j (r 8, r 9)).2 ∧ nwj gv c j r (4 + c) = r (4 + c) + nI j ∧ ∀ x, x ≠ 8 → x ≠ 9 → x ≠ 4 + c → nwj gv c j r x = r x
  | 0, r => by
    refine ⟨rfl, rfl, ?_, fun _ _ _ _ => rfl⟩
    show r (4 + c) = _
    rw [nI_0, Int32.add_zero]
  | j + 1, r => by
    obtain ⟨h1, h2, h3, h4⟩ := nwj_ws hc j (nw1 gv c r)
    rw [nw1_c hc, nw1_12 hc, nw1_8 hc, nw1_9 hc] at h1 h2
    refine ⟨h1, h2, ?_, fun x x1 x2 x3 => ?_⟩
    · show nwj gv c j (nw1 gv c r) (4 + c) = _
      rw [h3]
      unfold nw1
      rw [if_pos rfl, Int32.add_assoc, Int32.add_comm 1 (nI j), nI_1]
    · show nwj gv c j (nw1 gv c r) x = _
      rw [h4 x x1 x2 x3]
      unfold nw1
      rw [if_neg x3, if_neg x2, if_neg x1]
theorem QX.bx (hc : ∀ j b, j < 4 → mm_p (mm_Y n xs) B 26 j = some b → atc b = false) (q : QX n xs B M) (g : BX M M1) : QX n xs B M1 := by
  obtain ⟨q1, q2, q3, q4⟩ := q
  refine ⟨(g.I (by decide) (by decide) (by decide) (by decide) (by decide) (by decide)).trans q1, fun k hk => (g.2.2.2.2.2 k hk).trans (q2 k hk), fun j hj => ?_, fun j b hj hb => ?_⟩
  · rw [← q3 j hj]
    unfold mm_p
    rw [g.2.2.2.1]
  · have hat := hc j b hj hb
    obtain ⟨a1, a2⟩ := q4 j b hj hb
    refine ⟨?_, (g.I (atc_ne hat (by decide)) (atc_ne hat (by decide)) (atc_ne hat (by decide)) (atc_ne hat (by decide)) (atc_ne hat (by decide)) (atc_ne hat (by decide))).trans a2⟩
    rw [← a1]
    unfold mm_s
    rw [g.1]
theorem wk_out (d f c t : Nat) (hc : c < 4) {w x : Int32} {M : mmM} {i : Nat} (hi : t ≤ i) (hi2 : i < 2 ^ 31) : lp_X11_whisk n xs N (d + 1) (f + 1) 12 [some (.ref 16), some (.int (nI c)), some (.int (nI t)), some (.int w), some (.int (nI i))] [] M = some (none, mm_wI M 36 c (mm_I M 36 c + nI t)) := by
  rw [lu_X11_whisk_12, if_pos (nI_le hi hi2), u_X0_tire_35, if_neg (nI_pos (by omega)), if_neg (show ¬ Int32.ofNat 4 ≤ nI c from nI_ge (b := 4) hc (by omega))]
  simp only [mm_inb_nI hc (by omega), mm_ble (show 16 ≤ 36 by omega), Bool.and_self, cond_true, nI_clamp (show c < 2 ^ 31 by omega), ra_V, Option.bind_some]
theorem L_whisk (hG : GX n xs N gv B) (hc : ∀ j b, j < 4 → mm_p (mm_Y n xs) B 26 j = some b → atc b = false) (d c t : Nat) (hc4 : c < 4) (ht : t ≤ 300) {w y : Int32} (hw : bd 0 9 w) (hy : bd 0 9 y) : ∀ (j i f : Nat) (M : mmM), i + j = t → j < f → QX n xs B M → mm_I M 35 4 = y → bd 0 99 (mm_I M 35 0) → bd 0 (999 - j : Nat) (mm_I M 35 1) → ∃ M1, lp_X11_whisk n xs N (d + 9) f 12 [some (.ref 16), some (.int (nI c)), some (.int (nI t)), some (.int w), some (.int (nI i))] [] M = some (none, M1) ∧ BX M M1 ∧ mm_I M1 35 0 = (ws gv w y j (mm_I M 35 0, mm_I M 35 1)).1 ∧ mm_I M1 35 1 = (ws gv w y j (mm_I M 35 0, mm_I M 35 1)).2 ∧ (∀ x, x ≠ 0 → x ≠ 1 → mm_I M1 35 x = mm_I M 35 x) ∧ (∀ x, mm_I M1 36 x = if x = c then mm_I M 36 c + nI t else mm_I M 36 x) ∧ mm_I M1 37 = mm_I M 37 ∧ mm_I M1 41 = mm_I M 41 ∧ M1.2.2.2.2.1 = M.2.2.2.2.1 := by
  intro j
  induction j with
  | zero =>
    intro i f M hij hf hq hy4 h0 h1
    obtain ⟨f, rfl⟩ : ∃ g, f = g + 1 := ⟨f - 1, by omega⟩
    refine ⟨mm_wI M 36 c (mm_I M 36 c + nI t), wk_out (d + 8) f c t hc4 (x := 0) (by omega) (by omega), BX.wI (by omega), ?_, ?_, fun x _ _ => by rw [I_wn (by decide)], fun x => ?_, I_wn (by decide), I_wn (by decide), rfl⟩
    · rw [I_wn (by decide)]; rfl
    · rw [I_wn (by decide)]; rfl
    · rw [I_w, if_pos rfl]
  | succ j ih =>
    intro i f M hij hf hq hy4 h0 h1
    obtain ⟨f, rfl⟩ : ∃ g, f = g + 1 := ⟨f - 1, by omega⟩
    obtain ⟨M1, e1, s1⟩ := hG M hq d w (mm_I M 35 0) (mm_I M 35 1) y hw h0 (by unfold bd at h1 ⊢; omega) hy
    have e35 : mm_I M1 35 = mm_I M 35 := s1.I (by decide) (by decide)
    have g1 : BX M (mm_wI (mm_wI M1 35 0 (stk gv w (mm_I M 35 0) (mm_I M 35 1) y)) 35 1 (mm_I M 35 1 + 1)) := (s1.bx.tr (BX.wI (by omega))).tr (BX.wI (by omega))
    have w0 : mm_I (mm_wI (mm_wI M1 35 0 (stk gv w (mm_I M 35 0) (mm_I M 35 1) y)) 35 1 (mm_I M 35 1 + 1)) 35 0 = stk gv w (mm_I M 35 0) (mm_I M 35 1) y := by rw [I_w, if_pos rfl, if_neg (by decide), I_w, if_pos rfl, if_pos rfl]
    have w1 : mm_I (mm_wI (mm_wI M1 35 0 (stk gv w (mm_I M 35 0) (mm_I M 35 1) y)) 35 1 (mm_I M 35 1 + 1)) 35 1 = mm_I M 35 1 + 1 := by rw [I_w, if_pos rfl, if_pos rfl]
    have wx : ∀ x, x ≠ 0 → x ≠ 1 → mm_I (mm_wI (mm_wI M1 35 0 (stk gv w (mm_I M 35 0) (mm_I M 35 1) y)) 35 1 (mm_I M 35 1 + 1)) 35 x = mm_I M 35 x := fun x x0 x1 => by rw [I_w, if_pos rfl, if_neg x1, I_w, if_pos rfl, if_neg x0, e35]
    obtain ⟨M2, e2, b2, c0, c1, cx, c36, c37, c41, cJ⟩ := ih (i + 1) f (mm_wI (mm_wI M1 35 0 (stk gv w (mm_I M 35 0) (mm_I M 35 1) y)) 35 1 (mm_I M 35 1 + 1)) (by omega) (by omega) (hq.bx hc g1) (by rw [wx 4 (by decide) (by decide)]; exact hy4) (by rw [w0]; exact stk_bd _ _ _ _) (by
      rw [w1]
      have := bd_succ (b := 999 - (j + 1)) (by omega) h1
      unfold bd at this ⊢
      omega)
    rw [w0, w1] at c0 c1
    refine ⟨M2, ?_, g1.tr b2, c0, c1, fun x x0 x1 => (cx x x0 x1).trans (wx x x0 x1), fun x => ?_, ?_, ?_, ?_⟩
    · rw [lu_X11_whisk_12, if_neg (nI_ge (show i < t by omega) (by omega)), hy4]
      rw [e1, ra_I, Option.bind_some]
      dsimp only
      rw [e35, nI_1]
      exact e2
    · rw [c36 x, I_wn (by decide), I_wn (by decide), s1.I (by decide) (by decide)]
    · rw [c37, I_wn (by decide), I_wn (by decide), s1.I (by decide) (by decide)]
    · rw [c41, I_wn (by decide), I_wn (by decide), s1.I (by decide) (by decide)]
    · rw [cJ]; exact s1.2.2.2.1
theorem E_whiskX (hC : CT n xs N gv M nc nm) (hc : ∀ j b, j < 4 → mm_p (mm_Y n xs) M 26 j = some b → atc b = false) (d : Nat) {c t : Nat} (hcn : c < nc) (ht : t ≤ 300) : ∃ M1, mm_E n xs N (d + 10) 117 [.ref 16, .int (nI c), .int (nI t)] M = some (none, M1) ∧ BX M M1 ∧ mm_I M1 35 0 = (ws gv (mm_I M 37 c) (mm_I M 35 4) t (mm_I M 35 0, mm_I M 35 1)).1 ∧ mm_I M1 35 1 = (ws gv (mm_I M 37 c) (mm_I M 35 4) t (mm_I M 35 0, mm_I M 35 1)).2 ∧ (∀ x, x ≠ 0 → x ≠ 1 → mm_I M1 35 x = mm_I M 35 x) ∧ (∀ x, mm_I M1 36 x = if x = c then mm_I M 36 c + nI t else mm_I M 36 x) ∧ mm_I M1 37 = mm_I M 37 ∧ mm_I M1 41 = mm_I M 41 ∧ M1.2.2.2.2.1 = M.2.2.2.2.1 := by
  have h4 := hC.nc4
  have hN := hC.nN
  have sk := hC.sk
  obtain ⟨M1, e1, r1⟩ := L_whisk (n := n) (xs := xs) (N := N) (B := M) hC.2.2.1 hc d c t (by omega) ht (hC.w9 hcn) hC.yk t 0 N M (by omega) (by omega) QX.rf rfl hC.st (by unfold bd at sk ⊢; omega)
  refine ⟨M1, ?_, r1⟩
  rw [u_X11_whisk]
  (rw [E_wristOf (d + 8) M c (by omega), ra_I]; simp only [Option.bind_some])
  exact e1
/-- the bowl and the row behind strokes -/
theorem ws_RB {e b r b' r' : Nat → Int32} {c t lf : Nat} (h4 : nc ≤ 4) (hcn : c < nc) (hRB : RBf e nc nm b r) (hTS : TS nc b) (he : ∀ c, c < nc → bd 1 40 (e (4 + c * 2 + 1))) (hlf : (b (9 + c)).toInt + t ≤ (e (4 + c * 2 + 1)).toInt) (ht : t ≤ 40) (b0 : b' 0 = (ws gv (b (13 + c)) (b 4) t (b 0, b 1)).1) (b1 : b' 1 = (ws gv (b (13 + c)) (b 4) t (b 0, b 1)).2) (bx : ∀ x, x ≠ 0 → x ≠ 1 → x ≤ 8 → b' x = b x) (bt : ∀ x, x < 4 → b' (9 + x) = if x = c then b (9 + c) + nI t else b (9 + x)) (bw : ∀ x, x < 4 → b' (13 + x) = b (13 + x)) (hr : r' = nwj gv c t r) : RBf e nc nm b' r' ∧ TS nc b' := by
  obtain ⟨a1, a2, a3, a4, a5, a6, a7, a8, a9, a10, a11, a12, a13, a14, a15, a16, a17, a18, a19, a20⟩ := hRB
  obtain ⟨n8, n9, nt, nx⟩ := nwj_ws (gv := gv) (c := c) (by omega) t r
  have rc := (a10 c hcn).1
  rw [rc, a1, a2, a5] at n8 n9
  have e2 : b' 1 = b 1 + nI t := by rw [b1, ws_2]
  have ti : ∀ x, x < nc → (b' (9 + x)).toInt = (b (9 + x)).toInt + (if x = c then (t : Int) else 0) := by
    intro x hx
    rw [bt x (by omega)]
    by_cases q : x = c
    · subst q
      have h20 := a20 x hx
      have h40 := he x hx
      unfold bd at h40
      rw [if_pos rfl, if_pos rfl, t_add (by rw [nI_toInt (by omega)]; omega) (by rw [nI_toInt (by omega)]; omega), nI_toInt (by omega)]
    · rw [if_neg q, if_neg q]; omega
  have bnd : ∀ x, x < nc → 0 ≤ (b' (9 + x)).toInt ∧ (b' (9 + x)).toInt ≤ (e (4 + x * 2 + 1)).toInt := by
    intro x hx
    have h20 := a20 x hx
    rw [ti x hx]
    by_cases q : x = c
    · subst q; rw [if_pos rfl]; omega
    · rw [if_neg q]; omega
  have sm : ∀ x, x ≤ nc → tsI b' x = tsI b x + (if c < x then (t : Int) else 0) := by
    intro x
    induction x with
    | zero => intro _; rw [if_neg (by omega)]; rfl
    | succ x ih =>
      intro hx
      show tsI b' x + (b' (9 + x)).toInt = tsI b x + (b (9 + x)).toInt + _
      rw [ih (by omega), ti x (by omega)]
      by_cases q1 : c < x
      · rw [if_pos q1, if_neg (by omega), if_pos (by omega)]; omega
      · by_cases q2 : x = c
        · rw [if_neg q1, if_pos q2, if_pos (by omega)]; omega
        · rw [if_neg q1, if_neg q2, if_neg (by omega)]; omega
  have up : ∀ x, x ≤ nc → 0 ≤ tsI b' x ∧ tsI b' x ≤ 40 * (x : Int) := by
    intro x
    induction x with
    | zero => intro _; unfold tsI; omega
    | succ x ih =>
      intro hx
      have h1 := ih (by omega)
      have h2 := bnd x (by omega)
      have h3 := he x (by omega)
      unfold bd at h3
      show 0 ≤ tsI b' x + (b' (9 + x)).toInt ∧ tsI b' x + (b' (9 + x)).toInt ≤ _
      omega
  have s1 : (b' 1).toInt = (b 1).toInt + t := by
    unfold bd at a12
    rw [e2, t_add (by rw [nI_toInt (by omega)]; omega) (by rw [nI_toInt (by omega)]; omega), nI_toInt (by omega)]
  have ts' : TS nc b' := by
    unfold TS at hTS ⊢
    rw [s1, sm nc (Nat.le_refl _), if_pos hcn, hTS]
  have u := up nc (Nat.le_refl _)
  refine ⟨⟨?_, ?_, ?_, ?_, ?_, ?_, ?_, ?_, ?_, fun x hx => ⟨?_, ?_⟩, ?_, ?_, ?_, ?_, ?_, ?_, ?_, ?_, fun x hx => ?_, bnd⟩, ts'⟩
  · rw [hr, n8, b0]
  · rw [hr, n9, b1]
  · rw [hr, nx 10 (by omega) (by omega) (by omega), bx 2 (by omega) (by omega) (by omega)]; exact a3
  · rw [hr, nx 11 (by omega) (by omega) (by omega), bx 3 (by omega) (by omega) (by omega)]; exact a4
  · rw [hr, nx 12 (by omega) (by omega) (by omega), bx 4 (by omega) (by omega) (by omega)]; exact a5
  · rw [hr, nx 13 (by omega) (by omega) (by omega), bx 5 (by omega) (by omega) (by omega)]; exact a6
  · rw [hr, nx 14 (by omega) (by omega) (by omega), bx 6 (by omega) (by omega) (by omega)]; exact a7
  · rw [hr, nx 15 (by omega) (by omega) (by omega), bx 7 (by omega) (by omega) (by omega)]; exact a8
  · rw [hr, nx 16 (by omega) (by omega) (by omega), bx 8 (by omega) (by omega) (by omega)]; exact a9
  · rw [hr, nx x (by omega) (by omega) (by omega), bw x (by omega)]; exact (a10 x hx).1
  · rw [hr, bt x (by omega)]
    by_cases q : x = c
    · subst q
      rw [if_pos rfl, nt, (a10 x hx).2]
    · rw [if_neg q, nx (4 + x) (by omega) (by omega) (by omega)]; exact (a10 x hx).2
  · rw [b0]; exact ws_bd _ _ _ _ a11
  · unfold TS at ts'
    unfold bd
    omega
  · rw [bx 2 (by omega) (by omega) (by omega)]; exact a13
  · rw [bx 3 (by omega) (by omega) (by omega)]; exact a14
  · rw [bx 4 (by omega) (by omega) (by omega)]; exact a15
  · rw [bx 5 (by omega) (by omega) (by omega)]; exact a16
  · rw [bx 6 (by omega) (by omega) (by omega)]; exact a17
  · rw [bx 8 (by omega) (by omega) (by omega)]; exact a18
  · rw [bw x (by omega)]; exact a19 x hx
theorem IV.ts (hI : IV n xs N gv M nc nm k p z h bs rs Dk im) : TS nc (nowX M) := hI.2.2.2.2.2.2.2.1.2
/-- no day has passed -/
theorem act_sm (hI : IV n xs N gv M nc nm k p z h bs rs Dk im) (hK : KX n xs M Ma p z h h1 o) (hX : BX Ma M1) (hS : S2 79 60 32 M1 Mb) (hMP : MP Mb (min 40 (z + 1)) (cns (mm_I M1 77) rs)) (hB : BM Mb M2) (hRB : RBf (mm_I M 33) nc nm (nowX M1) (mm_I M2 77)) (hTS : TS nc (nowX M1)) (hr : ∀ x, 17 ≤ x → mm_I M2 77 x = mm_I M 77 x) (h8 : mm_I M1 35 8 = mm_I M 35 8) (h41 : mm_I M1 41 = mm_I M 41) : FA n xs M M2 ∧ IE n xs N gv M2 nc nm := by
  have r := act_ok hI hK hX hS hMP hB (D' := Dk 0) hRB (by rw [h41]; exact hI.2.2.2.2.2.1.hi hr) hTS (h8.trans hI.2.2.2.2.2.2.1) ⟨Nat.le_refl _, by omega, hI.2.2.2.2.2.2.2.1.1⟩ (fun x _ => by rw [h41])
  exact ⟨r.1, _, _, _, _, _, _, _, _, r.2⟩
theorem CT.lfT (hC : CT n xs N gv M nc nm) {c t : Nat} (hc : c < nc) (ht : t ≤ lfN M c) : (mm_I M 36 c).toInt + t ≤ (mm_I M 33 (4 + c * 2 + 1)).toInt := by
  have := hC.ti hc
  unfold lfN at ht
  omega
theorem A_strokes (hI : IV n xs N gv M nc nm k p z h bs rs Dk im) (d : Nat) (c x : Int32) : AA n xs N (d + 60) gv nc nm M 127 [.ref 16, .int c, .int x] 243 [.ref 60, .int c, .int x] := by
  have hC := hI.ct
  have h4 := hC.nc4
  have hN := hI.nN
  cases hk : ck nc c with
  | false =>
    refine AA.ref hI (i := 0) (by omega) ?_ (fun Mr hMr => ?_)
    · rw [u_X11_strokes]
      (rw [E_hasCook (d + 56) hC.1, ra_I]; simp only [Option.bind_some])
      rw [hk, if_pos (show mb false = 0 by decide)]
      (rw [(show mm_E n xs N (d + 59) 126 [.ref 16, .int 0] M = _ from E_refuse (d + 57) M (i := 0) (by omega)), ra_I]; simp only [Option.bind_some])
    · subst hMr
      rw [u_X12_strokes]
      (rw [E_isCook (d + 57) hI.ct57.1, ra_I]; simp only [Option.bind_some])
      rw [hk, if_pos (show mb false = 0 by decide)]
      rw [show mm_E n xs N (d + 59) 242 [.ref 60, .int 0] _ = _ from E_isRef (d + 58) _ (i := 0) (by omega), ra_I, Option.bind_some]
      dsimp only
      rw [if_neg (by decide)]
  | true =>
    obtain ⟨c, hc, rfl⟩ := ck_t (by omega) hk
    cases hw : wi 1 x 40 with
    | false =>
      refine AA.ref hI (i := 1) (by omega) ?_ (fun Mr hMr => ?_)
      · rw [u_X11_strokes]
        (rw [E_hasCook (d + 56) hC.1, ra_I]; simp only [Option.bind_some])
        rw [hk, if_neg (show ¬ mb true = 0 by decide)]
        (rw [E_isWithin (d + 58) M 1 x 40, ra_I]; simp only [Option.bind_some])
        rw [hw, if_pos (show mb false = 0 by decide)]
        (rw [(show mm_E n xs N (d + 59) 126 [.ref 16, .int 1] M = _ from E_refuse (d + 57) M (i := 1) (by omega)), ra_I]; simp only [Option.bind_some])
      · subst hMr
        rw [u_X12_strokes]
        (rw [E_isCook (d + 57) hI.ct57.1, ra_I]; simp only [Option.bind_some])
        rw [hk, if_neg (show ¬ mb true = 0 by decide)]
        (rw [E_in (d + 58) _ x 1 40, ra_I]; simp only [Option.bind_some])
        rw [hw, if_pos (show mb false = 0 by decide)]
        rw [show mm_E n xs N (d + 59) 242 [.ref 60, .int 1] _ = _ from E_isRef (d + 58) _ (i := 1) (by omega), ra_I, Option.bind_some]
        dsimp only
        rw [if_neg (by decide)]
    | true =>
      obtain ⟨t, t1, t2, rfl⟩ := wi_1t (k := 40) (by decide) hw
      have hl := (hC.lf hc).2
      by_cases q : t ≤ lfN M c
      · obtain ⟨Ma, h1, o, e1, hK, fa, hCa, low⟩ := goX hI (d + 56)
        have l35 : mm_I Ma 35 = mm_I M 35 := low 35 (by decide) (by decide)
        have l36 : mm_I Ma 36 = mm_I M 36 := low 36 (by decide) (by decide)
        have l37 : mm_I Ma 37 = mm_I M 37 := low 37 (by decide) (by decide)
        have l41 : mm_I Ma 41 = mm_I M 41 := low 41 (by decide) (by decide)
        obtain ⟨M1, e2, hX, x0, x1, xx, x36, x37, x41, -⟩ := E_whiskX (n := n) (xs := xs) (N := N) hCa (fa.cd hI) (d + 49) hc (t := t) (by omega)
        obtain ⟨Mb, e3, hS, hMP, fb, RTb, GMb, r77⟩ := goM hI (d + 58) hK hX
        have hRB0 := (RB_f h4).mp hC.2.1
        have c77 := (hC.cm hc).1
        obtain ⟨M2, e4, s4⟩ := E_strokesNow (n := n) (xs := xs) (N := N) GMb (by omega) (d + 48) c (by omega) t (by omega) Mb QM.rf (by rw [r77, c77]; exact hC.w9 hc) (by rw [r77, hC.b8]; exact hC.st) (by rw [r77, hC.b9]; exact hC.sk2) (by rw [r77, hC.b12]; exact hC.yk)
        have r2 : mm_I M2 77 = nwj gv c t (mm_I M 77) := by rw [s4.2.2.2.2.2.2, r77]
        have bX : nowX M1 = bow (mm_I M1 35) (mm_I M1 36) (mm_I M1 37) := rfl
        obtain ⟨hRB, hTS⟩ := ws_RB (gv := gv) (c := c) (t := t) (lf := 0) (b' := nowX M1) (r' := mm_I M2 77) h4 hc hRB0 hI.ts (fun c hc => hC.en hc) (by
            rw [show nowX M (9 + c) = mm_I M 36 c from bow_t (by omega)]
            exact hC.lfT hc q) t2 (by
            rw [show nowX M1 0 = mm_I M1 35 0 from bow_b (by omega), x0, l35, l37, show nowX M (13 + c) = mm_I M 37 c from bow_w, show nowX M 4 = mm_I M 35 4 from bow_b (by omega), show nowX M 0 = mm_I M 35 0 from bow_b (by omega), show nowX M 1 = mm_I M 35 1 from bow_b (by omega)]) (by
            rw [show nowX M1 1 = mm_I M1 35 1 from bow_b (by omega), x1, l35, l37, show nowX M (13 + c) = mm_I M 37 c from bow_w, show nowX M 4 = mm_I M 35 4 from bow_b (by omega), show nowX M 0 = mm_I M 35 0 from bow_b (by omega), show nowX M 1 = mm_I M 35 1 from bow_b (by omega)]) (fun x a1 a2 a3 => by
            rw [show nowX M1 x = mm_I M1 35 x from bow_b a3, xx x a1 a2, l35, show nowX M x = mm_I M 35 x from bow_b a3]) (fun x hx => by
            rw [show nowX M1 (9 + x) = mm_I M1 36 x from bow_t hx, x36 x, l36, show nowX M (9 + c) = mm_I M 36 c from bow_t (by omega), show nowX M (9 + x) = mm_I M 36 x from bow_t hx]) (fun x _ => by
            rw [show nowX M1 (13 + x) = mm_I M1 37 x from bow_w, x37, l37, show nowX M (13 + x) = mm_I M 37 x from bow_w]) r2
        have fin := act_sm hI hK hX hS hMP s4.bm hRB hTS (fun x hx => by rw [r2]; exact nwj_hi (by omega) hx t _) (by rw [xx 8 (by decide) (by decide), l35]) (x41.trans l41)
        refine ⟨mm_I M1 35 0, M1, M2, ?_, ?_, fin⟩
        · rw [u_X11_strokes]
          (rw [E_hasCook (d + 56) hC.1, ra_I]; simp only [Option.bind_some])
          rw [hk, if_neg (show ¬ mb true = 0 by decide)]
          (rw [E_isWithin (d + 58) M 1 (nI t) 40, ra_I]; simp only [Option.bind_some])
          rw [hw, if_neg (show ¬ mb true = 0 by decide)]
          (rw [E_left hC (d + 55) hc, ra_I]; simp only [Option.bind_some])
          rw [if_pos (nI_le q (by omega)), e1, ra_V, Option.bind_some, e2, ra_V, Option.bind_some]
        · have hRT1 := (CT.fa3 hI (fa.bx hI hX)).1
          rw [u_X12_strokes]
          (rw [E_isCook (d + 57) hRT1, ra_I]; simp only [Option.bind_some])
          rw [hk, if_neg (show ¬ mb true = 0 by decide)]
          (rw [E_in (d + 58) M1 (nI t) 1 40, ra_I]; simp only [Option.bind_some])
          rw [hw, if_neg (show ¬ mb true = 0 by decide)]
          have el : mm_E n xs N (d + 59) 224 [.ref 60, .int (nI c)] M1 = some (some (.int (nI (lfN M c))), M1) := by
            have e75 : mm_I M1 75 = mm_I M 75 := (fa.bx hI hX).1 75 (by decide) (by decide)
            have e77 : mm_I M1 77 = mm_I M 77 := (hX.I (by decide) (by decide) (by decide) (by decide) (by decide) (by decide)).trans (low 77 (by decide) (by decide))
            rw [E_leftOf (d + 58) M1 c (by omega), e75, e77, hC.c75 hc (by omega), (hC.cm hc).2, (hC.lf hc).1]
          (rw [el, ra_I]; simp only [Option.bind_some])
          rw [if_pos (nI_le q (by omega)), E_isRefN (d + 58) M1, ra_I, Option.bind_some]
          dsimp only
          rw [if_pos rfl, e3, ra_V, Option.bind_some, e4, ra_V, Option.bind_some, r2]
          have := hRB.1
          rw [r2] at this
          rw [this, show nowX M1 0 = mm_I M1 35 0 from bow_b (by omega)]
      · refine AA.ref hI (i := 3) (by omega) ?_ (fun Mr hMr => ?_)
        · rw [u_X11_strokes]
          (rw [E_hasCook (d + 56) hC.1, ra_I]; simp only [Option.bind_some])
          rw [hk, if_neg (show ¬ mb true = 0 by decide)]
          (rw [E_isWithin (d + 58) M 1 (nI t) 40, ra_I]; simp only [Option.bind_some])
          rw [hw, if_neg (show ¬ mb true = 0 by decide)]
          (rw [E_left hC (d + 55) hc, ra_I]; simp only [Option.bind_some])
          rw [if_neg (nI_ge (by omega) (by omega))]
          (rw [(show mm_E n xs N (d + 59) 126 [.ref 16, .int 3] M = _ from E_refuse (d + 57) M (i := 3) (by omega)), ra_I]; simp only [Option.bind_some])
        · have hCr : CT n xs N gv Mr nc nm := by rw [hMr]; exact hI.ct57
          have elf : lfN Mr = lfN M := by
            funext c
            unfold lfN
            rw [hMr, I_wn (by decide), I_wn (by decide)]
          rw [u_X12_strokes]
          (rw [E_isCook (d + 57) hCr.1, ra_I]; simp only [Option.bind_some])
          rw [hk, if_neg (show ¬ mb true = 0 by decide)]
          (rw [E_in (d + 58) _ (nI t) 1 40, ra_I]; simp only [Option.bind_some])
          rw [hw, if_neg (show ¬ mb true = 0 by decide)]
          (rw [E_leftM hCr (d + 58) hc, ra_I]; simp only [Option.bind_some])
          rw [elf, if_neg (nI_ge (by omega) (by omega))]
          rw [show mm_E n xs N (d + 59) 242 [.ref 60, .int 3] _ = _ from E_isRef (d + 58) _ (i := 3) (by omega), ra_I, Option.bind_some]
          dsimp only
          rw [if_neg (by decide)]
end ST
