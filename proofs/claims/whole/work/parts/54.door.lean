/-! doors, folding, hours -/
def bfall (b : Nat → Int32) : Nat → Int32 := fun k => if b 0 = 0 ∧ ¬ b 2 = 0 then (if k = 7 then b 7 + 1 else if k = 2 then 0 else b k) else b k
def up0 (v : Int32) (b : Nat → Int32) : Nat → Int32 := fun k => if k = 0 then v else b k
def doorB (b : Nat → Int32) : Nat → Int32 := bfall (up0 (b 0 / 2) b)
def skB (e : Nat → Int32) (nm : Nat) (b : Nat → Int32) : Int32 := i_max 0 (1 + e 0 / 3 + sumIn (b 2) (fun m => e (12 + m * 4 + 0)) nm / 4 - b 3)
def hourB (e : Nat → Int32) (nm : Nat) (b : Nat → Int32) : Nat → Int32 := bfall (up0 (i_max 0 (b 0 - skB e nm b)) b)
def foldB (e : Nat → Int32) (m : Nat) (b : Nat → Int32) : Nat → Int32 := fun k => if k = 2 then b 2 ||| ((1 : Int32) <<< (nI m &&& 31)) else if k = 0 then i_max 0 (b 0 - e (12 + m * 4 + 3)) else b k
def foldR (e : Nat → Int32) (m : Nat) (r : Nat → Int32) : Nat → Int32 := fun k => if k = 8 then i_max 0 (i_min 99 (r 8 - e (4 * m + 3))) else if k = 10 then r 10 ||| ((1 : Int32) <<< (nI m &&& 31)) else r k
def cfR (e r : Nat → Int32) (m : Nat) : Bool := !ib (r 10) m && decide (e (4 * m + 2) ≤ r 8)
def cfN (e b : Nat → Int32) (m : Nat) : Bool := !ib (b 2) m && decide (e (12 + m * 4 + 2) ≤ b 0)
section DO
variable {n : Nat} {xs : Nat → Int32} {N : Nat} {gv : Int32 → Int32 → Int32 → Int32 → Int32} {B M M' M0 Ma M1 Mb M2 : mmM} {nc nm k p z h h0 h1 o : Nat} {bs rs : Nat → Nat → Int32} {Dk : Nat → Nat} {im : Bool}
theorem nX {j : Nat} (hj : j ≤ 8) : nowX M j = mm_I M 35 j := bow_b hj
theorem nw_35 {v : Int32} {k : Nat} (hk : k ≤ 8) : nowX (mm_wI M 35 k v) = fun j => if j = k then v else nowX M j := by
  funext j
  unfold nowX bow
  rw [I_wn (show 36 ≠ 35 by decide), I_wn (show 37 ≠ 35 by decide)]
  by_cases q : j ≤ 8
  · rw [if_pos q, if_pos q, I_w, if_pos rfl]
  · rw [if_neg q, if_neg q, if_neg (show ¬ j = k by omega)]
theorem E_fallX (d : Nat) (M : mmM) : ∃ M1, mm_E n xs N (d + 1) 123 [.ref 16] M = some (none, M1) ∧ S1 35 M M1 ∧ nowX M1 = bfall (nowX M) := by
  rw [u_X11_fallIfFlat]
  by_cases q0 : mm_I M 35 0 = 0
  · rw [if_pos q0]
    by_cases q2 : mm_I M 35 2 = 0
    · rw [if_pos q2]
      refine ⟨M, rfl, S1.rf, ?_⟩
      funext j
      unfold bfall
      rw [nX (j := 2) (by omega), if_neg (fun w => w.2 q2)]
    · rw [if_neg q2]
      refine ⟨_, rfl, S1.wI.tr S1.wI, ?_⟩
      rw [nw_35 (by omega), nw_35 (by omega)]
      funext j
      unfold bfall
      rw [nX (j := 0) (by omega), nX (j := 2) (by omega), nX (j := 7) (by omega), if_pos (show mm_I M 35 0 = 0 ∧ ¬ mm_I M 35 2 = 0 from ⟨q0, q2⟩)]
  · rw [if_neg q0]
    refine ⟨M, rfl, S1.rf, ?_⟩
    funext j
    unfold bfall
    rw [nX (j := 0) (by omega), if_neg (fun w => q0 w.1)]
theorem E_doorX (d : Nat) (M : mmM) : ∃ M1, mm_E n xs N (d + 2) 119 [.ref 16] M = some (none, M1) ∧ S1 35 M M1 ∧ nowX M1 = doorB (nowX M) := by
  obtain ⟨M1, e1, s1, r1⟩ := E_fallX (n := n) (xs := xs) (N := N) d (mm_wI M 35 0 (mm_I M 35 0 / 2))
  refine ⟨M1, ?_, S1.wI.tr s1, ?_⟩
  · rw [u_X11_openDoor]
    simp only [c20, if_false]
    (rw [e1, ra_V]; simp only [Option.bind_some])
  · rw [r1, nw_35 (by omega)]
    unfold doorB up0
    rw [nX (j := 0) (by omega)]
theorem E_sinkX2 (hR : RT M nc nm) (hN : 100 ≤ N) (d : Nat) : mm_E n xs N (d + 5) 121 [.ref 16] M = some (some (.int (skB (mm_I M 33) nm (nowX M))), M) := by
  rw [u_X11_sinksBy]
  simp only [c30, c40, if_false, E_weightX d hR hN, T2 (d + 1), ra_I, Option.bind_some, E_max (d + 3)]
  unfold skB wgt
  rw [nX (j := 2) (by omega), nX (j := 3) (by omega)]
theorem E_hourX (hR : RT M nc nm) (hN : 100 ≤ N) (d : Nat) : ∃ M1, mm_E n xs N (d + 6) 120 [.ref 16] M = some (none, M1) ∧ S1 35 M M1 ∧ nowX M1 = hourB (mm_I M 33) nm (nowX M) := by
  obtain ⟨M1, e1, s1, r1⟩ := E_fallX (n := n) (xs := xs) (N := N) (d + 4) (mm_wI M 35 0 (i_max 0 (mm_I M 35 0 - skB (mm_I M 33) nm (nowX M))))
  refine ⟨M1, ?_, S1.wI.tr s1, ?_⟩
  · rw [u_X11_passHour]
    (rw [E_sinkX2 hR hN d, ra_I]; simp only [Option.bind_some])
    (rw [E_sunk (d + 3) M _ _, ra_I]; simp only [Option.bind_some])
    (rw [e1, ra_V]; simp only [Option.bind_some])
  · rw [r1, nw_35 (by omega)]
    unfold hourB up0
    rw [nX (j := 0) (by omega)]
theorem E_foldX (d : Nat) (M : mmM) {m : Nat} (hm : m < 7) : ∃ M1, mm_E n xs N (d + 4) 118 [.ref 16, .int (nI m)] M = some (none, M1) ∧ S1 35 M M1 ∧ nowX M1 = foldB (mm_I M 33) m (nowX M) := by
  refine ⟨mm_wI (mm_wI M 35 0 (i_max 0 (mm_I M 35 0 - mm_I M 33 (12 + m * 4 + 3)))) 35 2 (mm_I M 35 2 ||| ((1 : Int32) <<< (nI m &&& 31))), ?_, S1.wI.tr S1.wI, ?_⟩
  · rw [u_X11_foldIn]
    (rw [(show mm_E n xs N (d + 3) 94 [.ref 32, .int 2, .int (nI m), .int 3] M = _ from E_minI d M m 3 hm (by omega)), ra_I]; simp only [Option.bind_some])
    (rw [E_max (d + 2) M _ _, ra_I]; simp only [Option.bind_some])
  · rw [nw_35 (by omega), nw_35 (by omega)]
    unfold foldB
    rw [nX (j := 2) (by omega), nX (j := 0) (by omega)]
theorem E_foldM (d : Nat) (M : mmM) {m : Nat} (hm : m < 7) : ∃ M1, mm_E n xs N (d + 3) 236 [.ref 60, .int (nI m)] M = some (none, M1) ∧ S1 77 M M1 ∧ mm_I M1 77 = foldR (mm_I M 76) m (mm_I M 77) := by
  refine ⟨mm_wI (mm_wI M 77 10 (mm_I M 77 10 ||| ((1 : Int32) <<< (nI m &&& 31)))) 77 8 (i_max 0 (i_min 99 (mm_I M 77 8 - mm_I M 76 (4 * m + 3)))), ?_, S1.wI.tr S1.wI, ?_⟩
  · rw [u_X12_foldNow]
    (rw [(show mm_E n xs N (d + 2) 221 [.ref 60, .int (nI m), .int 3] _ = _ from E_of (d + 1) _ m 3 (by omega) (by omega)), ra_I]; simp only [Option.bind_some])
    rw [I_wn (show 76 ≠ 77 by decide)]
    (rw [E_held d _ _, ra_I]; simp only [Option.bind_some])
  · funext j
    unfold foldR
    rw [I_w, if_pos rfl, I_w, if_pos rfl]
theorem E_canX (d : Nat) (M : mmM) {m : Nat} (hm : m < 7) : mm_E n xs N (d + 4) 114 [.ref 16, .int (nI m)] M = some (some (.int (mb (cfN (mm_I M 33) (nowX M) m))), M) := by
  rw [E_canFoldX d M hm]
  unfold cfN cfB
  rw [nX (j := 2) (by omega), nX (j := 0) (by omega)]
theorem E_canM (d : Nat) (M : mmM) {m : Nat} (hm : m < 7) : mm_E n xs N (d + 2) 235 [.ref 60, .int (nI m)] M = some (some (.int (mb (cfR (mm_I M 76) (mm_I M 77) m))), M) := by
  rw [u_X12_canFold]
  (rw [E_has d M _ m, ra_I]; simp only [Option.bind_some])
  unfold cfR
  cases ib (mm_I M 77 10) m with
  | true => rfl
  | false =>
    rw [if_pos (show mb false = 0 by decide)]
    (rw [(show mm_E n xs N (d + 1) 221 [.ref 60, .int (nI m), .int 2] M = _ from E_of d M m 2 (by omega) (by omega)), ra_I]; simp only [Option.bind_some])
    by_cases q : mm_I M 76 (4 * m + 2) ≤ mm_I M 77 8
    · rw [if_neg (i_nlt.mpr q), decide_eq_true q]; rfl
    · rw [if_pos (i_nle.mp q), decide_eq_false q]; rfl
/-- how it stands, who is in it, how often it fell: only these are others -/
theorem RZ.f027 {e dy b r b' r' : Nat → Int32} {D : Nat} (h : RZ e nc nm dy b r D) (h4 : nc ≤ 4) (hb : ∀ x, x ≠ 0 → x ≠ 2 → x ≠ 7 → b' x = b x) (hr : ∀ x, x ≠ 8 → x ≠ 10 → x ≠ 15 → r' x = r x) (e0 : r' 8 = b' 0) (e2 : r' 10 = b' 2) (e7 : r' 15 = b' 7) (d0 : bd 0 99 (b' 0)) (d2 : 0 ≤ (b' 2).toInt ∧ (b' 2).toInt < 2 ^ nm) : RZ e nc nm dy b' r' D := by
  obtain ⟨hR, hL, h8, hD, hT⟩ := h
  obtain ⟨a1, a2, a3, a4, a5, a6, a7, a8, a9, a10, a11, a12, a13, a14, a15, a16, a17, a18, a19, a20⟩ := hR
  refine ⟨⟨e0, ?_, e2, ?_, ?_, ?_, ?_, e7, ?_, fun c hc => ⟨?_, ?_⟩, d0, ?_, d2, ?_, ?_, ?_, ?_, ?_, fun c hc => ?_, fun c hc => ?_⟩, hL.hi (fun x hx => hr x (by omega) (by omega) (by omega)), ?_, hD, ?_⟩
  · rw [hr 9 (by decide) (by decide) (by decide), hb 1 (by decide) (by decide) (by decide)]; exact a2
  · rw [hr 11 (by decide) (by decide) (by decide), hb 3 (by decide) (by decide) (by decide)]; exact a4
  · rw [hr 12 (by decide) (by decide) (by decide), hb 4 (by decide) (by decide) (by decide)]; exact a5
  · rw [hr 13 (by decide) (by decide) (by decide), hb 5 (by decide) (by decide) (by decide)]; exact a6
  · rw [hr 14 (by decide) (by decide) (by decide), hb 6 (by decide) (by decide) (by decide)]; exact a7
  · rw [hr 16 (by decide) (by decide) (by decide), hb 8 (by decide) (by decide) (by decide)]; exact a9
  · rw [hr c (by omega) (by omega) (by omega), hb (13 + c) (by omega) (by omega) (by omega)]; exact (a10 c hc).1
  · rw [hr (4 + c) (by omega) (by omega) (by omega), hb (9 + c) (by omega) (by omega) (by omega)]; exact (a10 c hc).2
  · rw [hb 1 (by decide) (by decide) (by decide)]; exact a12
  · rw [hb 3 (by decide) (by decide) (by decide)]; exact a14
  · rw [hb 4 (by decide) (by decide) (by decide)]; exact a15
  · rw [hb 5 (by decide) (by decide) (by decide)]; exact a16
  · rw [hb 6 (by decide) (by decide) (by decide)]; exact a17
  · rw [hb 8 (by decide) (by decide) (by decide)]; exact a18
  · rw [hb (13 + c) (by omega) (by omega) (by omega)]; exact a19 c hc
  · rw [hb (9 + c) (by omega) (by omega) (by omega)]; exact a20 c hc
  · rw [hb 8 (by decide) (by decide) (by decide)]; exact h8
  · unfold TS at hT ⊢
    rw [hb 1 (by decide) (by decide) (by decide), tsI_cg nc (fun j hj => hb (9 + j) (by omega) (by omega) (by omega))]
    exact hT
theorem bfall_x (b : Nat → Int32) {x : Nat} (h2 : x ≠ 2) (h7 : x ≠ 7) : bfall b x = b x := by
  unfold bfall
  rw [if_neg h7, if_neg h2, ite_self]
theorem mfall_x (r : Nat → Int32) {x : Nat} (h2 : x ≠ 10) (h7 : x ≠ 15) : mfall r x = r x := by
  unfold mfall
  rw [if_neg h7, if_neg h2, ite_self]
theorem up0_x (v : Int32) (b : Nat → Int32) {x : Nat} (h : x ≠ 0) : up0 v b x = b x := if_neg h
theorem up8_x (v : Int32) (r : Nat → Int32) {x : Nat} (h : x ≠ 8) : up8 v r x = r x := if_neg h
/-- both stand at v, and fall if they must -/
theorem RZ.fall {e dy b r : Nat → Int32} {D : Nat} (h : RZ e nc nm dy b r D) (h4 : nc ≤ 4) {v : Int32} (hv : bd 0 99 v) : RZ e nc nm dy (bfall (up0 v b)) (mfall (up8 v r)) D := by
  have hR := h.1
  obtain ⟨a1, a2, a3, a4, a5, a6, a7, a8, a9, a10, a11, a12, a13, -⟩ := hR
  have u2 : up0 v b 2 = b 2 := up0_x v b (by decide)
  have w2 : up8 v r 10 = b 2 := by rw [up8_x v r (by decide), a3]
  have p2 : (0 : Int) < 2 ^ nm := by
    have : 0 < (2 : Nat) ^ nm := Nat.two_pow_pos nm
    exact_mod_cast this
  refine h.f027 h4 (fun x x0 x2 x7 => by rw [bfall_x _ x2 x7, up0_x v b x0]) (fun x x0 x2 x7 => by rw [mfall_x _ x2 x7, up8_x v r x0]) ?_ ?_ ?_ ?_ ?_
  · rw [mfall_x _ (by decide) (by decide), bfall_x _ (by decide) (by decide)]; rfl
  · unfold bfall mfall
    rw [u2, w2]
    rfl
  · unfold bfall mfall
    rw [u2, w2, up8_x v r (show 15 ≠ 8 by decide), up0_x v b (show 7 ≠ 0 by decide), a8]
    rfl
  · rw [bfall_x _ (by decide) (by decide)]; exact hv
  · unfold bfall
    rw [u2]
    by_cases q : up0 v b 0 = 0 ∧ ¬ b 2 = 0
    · rw [if_pos q]
      show 0 ≤ (0 : Int32).toInt ∧ (0 : Int32).toInt < 2 ^ nm
      rw [show (0 : Int32).toInt = 0 by decide]
      exact ⟨Int.le_refl _, p2⟩
    · rw [if_neg q]
      exact a13
theorem RZ.door {e dy b r : Nat → Int32} {D : Nat} (h : RZ e nc nm dy b r D) (h4 : nc ≤ 4) : RZ e nc nm dy (doorB b) (doorR r) D := by
  have a1 := h.1.1
  have a11 := h.1.2.2.2.2.2.2.2.2.2.2.1
  unfold doorB doorR
  rw [a1]
  refine h.fall h4 ?_
  obtain ⟨s, hs, es⟩ := bd_nI (h := 99) a11
  rw [es, show (2 : Int32) = nI 2 from rfl, pk_div (by omega) (by omega) (by omega)]
  exact nI_bd (h := 99) (by omega) (by omega)
theorem RZ.hour {dy b r : Nat → Int32} {D : Nat} (hR : RT M nc nm) (h : RZ (mm_I M 33) nc nm dy b r D) : RZ (mm_I M 33) nc nm dy (hourB (mm_I M 33) nm b) (hourR M nm r) D := by
  obtain ⟨a1, a2, a3, a4, a5, a6, a7, a8, a9, a10, a11, a12, a13, -⟩ := h.1
  have es : snR M nm r = skB (mm_I M 33) nm b := by
    unfold snR skB
    rw [hR.2.2.2.2.2.2.2.2.1 0 (by omega), a3, a4]
    have e : sumIn (b 2) (fun m => mm_I M 76 (4 * m + 0)) nm = sumIn (b 2) (fun m => mm_I M 33 (12 + m * 4 + 0)) nm := sumIn_congr (fun m hm => hR.2.2.2.2.2.2.2.2.2.2.1 m 0 hm (by omega))
    rw [e]
  have ev : i_max 0 (i_min 99 (r 8 - snR M nm r)) = i_max 0 (b 0 - skB (mm_I M 33) nm b) := by
    rw [es, a1]
    obtain ⟨s, hs, e0⟩ := bd_nI (h := 99) a11
    rw [e0]
    exact held_sub hs _
  unfold hourB hourR
  rw [ev]
  refine h.fall hR.1 ?_
  rw [← ev]
  exact hel_bd _
theorem b2N {x : Int32} (h7 : nm ≤ 7) (h : 0 ≤ x.toInt ∧ x.toInt < 2 ^ nm) : ∃ s : Nat, s < 2 ^ nm ∧ s < 128 ∧ x = nI s := by
  have h2 : (2 : Nat) ^ nm ≤ 2 ^ 7 := Nat.pow_le_pow_right (by omega) h7
  have h3 : ((2 : Nat) ^ nm : Nat) = ((2 : Int) ^ nm) := by exact_mod_cast rfl
  obtain ⟨i0, hi, ei⟩ := bd_nI (h := 127) (x := x) (by unfold bd; omega)
  refine ⟨i0, ?_, by omega, ei⟩
  obtain ⟨-, h5⟩ := h
  rw [ei, nI_toInt (by omega)] at h5
  omega
theorem N2b {s : Nat} (h7 : nm ≤ 7) (h : s < 2 ^ nm) : 0 ≤ (nI s).toInt ∧ (nI s).toInt < 2 ^ nm := by
  have h2 : (2 : Nat) ^ nm ≤ 2 ^ 7 := Nat.pow_le_pow_right (by omega) h7
  have h3 : ((2 : Nat) ^ nm : Nat) = ((2 : Int) ^ nm) := by exact_mod_cast rfl
  rw [nI_toInt (by omega)]
  omega
theorem RZ.fold {dy b r : Nat → Int32} {D m : Nat} (hR : RT M nc nm) (hm : m < nm) (h : RZ (mm_I M 33) nc nm dy b r D) : RZ (mm_I M 33) nc nm dy (foldB (mm_I M 33) m b) (foldR (mm_I M 76) m r) D := by
  obtain ⟨a1, a2, a3, a4, a5, a6, a7, a8, a9, a10, a11, a12, a13, -⟩ := h.1
  have h7 := hR.2.1
  have e76 := hR.2.2.2.2.2.2.2.2.2.2.1 m 3 hm (by omega)
  have ml := (hR.2.2.2.2.2.2.2.2.2.2.2.2.2.2 m hm).2.2.2
  obtain ⟨l, hl, el⟩ := bd_nI (h := 9) ml
  obtain ⟨s, hs, es⟩ := bd_nI (h := 99) a11
  refine h.f027 hR.1 (fun x x0 x2 x7 => by unfold foldB; rw [if_neg x2, if_neg x0]) (fun x x0 x2 x7 => by unfold foldR; rw [if_neg x0, if_neg x2]) ?_ ?_ ?_ ?_ ?_
  · show i_max 0 (i_min 99 (r 8 - mm_I M 76 (4 * m + 3))) = i_max 0 (b 0 - mm_I M 33 (12 + m * 4 + 3))
    rw [a1, e76, es, el, held_nsub hs (by omega), i_max0 (by omega) (by omega)]
  · show r 10 ||| _ = b 2 ||| _
    rw [a3]
  · exact a8
  · show bd 0 99 (i_max 0 (b 0 - mm_I M 33 (12 + m * 4 + 3)))
    rw [es, el, i_max0 (by omega) (by omega)]
    exact nI_bd (h := 99) (by omega) (by omega)
  · show 0 ≤ (b 2 ||| ((1 : Int32) <<< (nI m &&& 31))).toInt ∧ (b 2 ||| ((1 : Int32) <<< (nI m &&& 31))).toInt < 2 ^ nm
    obtain ⟨i0, hi, -, ei⟩ := b2N h7 a13
    rw [ei, shl1 (by omega), nI_or]
    exact N2b h7 (lt_or hi hm)
theorem cfN_cfR {dy b r : Nat → Int32} {D m : Nat} (hR : RT M nc nm) (hm : m < nm) (h : RZ (mm_I M 33) nc nm dy b r D) : cfR (mm_I M 76) r m = cfN (mm_I M 33) b m := by
  obtain ⟨a1, a2, a3, -⟩ := h.1
  unfold cfR cfN
  rw [a1, a3, hR.2.2.2.2.2.2.2.2.2.2.1 m 2 hm (by omega)]
/-- one act of both -/
theorem act_z (hI : IV n xs N gv M nc nm k p z h bs rs Dk im) (hK : KX n xs M Ma p z h h1 o) (hX : BX Ma M1) (hS : S2 79 60 32 M1 Mb) (hMP : MP Mb (min 40 (z + 1)) (cns (mm_I M1 77) rs)) (hB : BM Mb M2) {D' : Nat} (hZ : RZ (mm_I M 33) nc nm (mm_I M1 41) (nowX M1) (mm_I M2 77) D') (hD : Dk 0 ≤ D' ∧ D' ≤ Dk 0 + 1) (hdy : ∀ x, x / 3 ≠ Dk 0 % 100 → mm_I M1 41 x = mm_I M 41 x) : FA n xs M M2 ∧ IE n xs N gv M2 nc nm := by
  have r := act_ok hI hK hX hS hMP hB (D' := D') hZ.1 hZ.2.1 hZ.2.2.2.2 ((nX (by omega)).symm.trans hZ.2.2.1) ⟨hD.1, hD.2, hZ.2.2.2.1⟩ hdy
  exact ⟨r.1, _, _, _, _, _, _, _, _, r.2⟩
theorem low_nX (low : ∀ a, a < 87 → a ≠ 38 → mm_I Ma a = mm_I M a) : nowX Ma = nowX M := by
  unfold nowX
  rw [low 35 (by decide) (by decide), low 36 (by decide) (by decide), low 37 (by decide) (by decide)]
theorem A_door (hI : IV n xs N gv M nc nm k p z h bs rs Dk im) (d : Nat) : AA n xs N (d + 60) gv nc nm M 130 [.ref 16] 246 [.ref 60] := by
  have hC := hI.ct
  have h4 := hC.nc4
  by_cases h0 : nm = 0
  · refine AA.ref hI (i := 0) (by omega) ?_ (fun Mr hMr => ?_)
    · rw [u_X11_door, if_pos (hC.X0 h0).1]
      (rw [E_ref0 (d + 57) M, ra_I]; simp only [Option.bind_some])
    · subst hMr
      rw [u_X12_door, if_pos (hI.ct57.X0 h0).2, E_isr0 (d + 58) _, ra_I, Option.bind_some]
      dsimp only
      rw [if_neg (by decide)]
  · obtain ⟨Ma, h1, o, e1, hK, fa, hCa, low⟩ := goX hI (d + 56)
    obtain ⟨M1, e2, s2, r2⟩ := E_doorX (n := n) (xs := xs) (N := N) (d + 57) Ma
    obtain ⟨Mb, e3, hS, hMP, fb, RTb, GMb, r77⟩ := goM hI (d + 58) hK s2.bx
    obtain ⟨M2, e4, s4, r4⟩ := E_doorM (n := n) (xs := xs) (N := N) (d + 57) Mb
    have l41 : mm_I M1 41 = mm_I M 41 := (s2.I (by decide)).trans (low 41 (by decide) (by decide))
    have hZ : RZ (mm_I M 33) nc nm (mm_I M1 41) (nowX M1) (mm_I M2 77) (Dk 0) := by
      rw [l41, r2, r4, r77, low_nX low]
      exact hI.pz.1.door h4
    have fin := act_z hI hK s2.bx hS hMP s4.bm hZ ⟨Nat.le_refl _, by omega⟩ (fun x _ => by rw [l41])
    have f1 := fa.bx hI s2.bx
    refine ⟨mm_I M1 35 0, M1, M2, ?_, ?_, fin⟩
    · rw [u_X11_door, if_neg (hC.X1 h0).1, e1, ra_V, Option.bind_some, e2, ra_V, Option.bind_some]
    · rw [u_X12_door, f1.2.2.1 26 (by decide) (by omega), if_neg (hC.X1 h0).2, E_isRefN (d + 58) _, ra_I, Option.bind_some]
      dsimp only
      rw [if_pos rfl, e3, ra_V, Option.bind_some, e4, ra_V, Option.bind_some, hZ.1.1, nX (by omega)]
theorem A_fold (hI : IV n xs N gv M nc nm k p z h bs rs Dk im) (d : Nat) (x : Int32) : AA n xs N (d + 60) gv nc nm M 128 [.ref 16, .int x] 244 [.ref 60, .int x] := by
  have hC := hI.ct
  have h4 := hC.nc4
  have h7 := hC.nm7
  cases hk : ck nm x with
  | false =>
    refine AA.ref hI (i := 0) (by omega) ?_ (fun Mr hMr => ?_)
    · rw [u_X11_fold]
      (rw [E_hasMin (d + 56) hC.1 x, ra_I]; simp only [Option.bind_some])
      rw [hk, if_pos (show mb false = 0 by decide)]
      (rw [E_ref0 (d + 57) M, ra_I]; simp only [Option.bind_some])
    · subst hMr
      rw [u_X12_fold]
      (rw [E_isMin (d + 57) hI.ct57.1 x, ra_I]; simp only [Option.bind_some])
      rw [hk, if_pos (show mb false = 0 by decide), E_isr0 (d + 58) _, ra_I, Option.bind_some]
      dsimp only
      rw [if_neg (by decide)]
  | true =>
    obtain ⟨m, hm, rfl⟩ := ck_t (by omega) hk
    have eib : ∀ Mx, mm_I Mx 77 = mm_I M 77 → ib (mm_I Mx 77 10) m = ib (mm_I M 35 2) m := fun Mx e => by rw [e, hC.b10]
    cases hb : ib (mm_I M 35 2) m with
    | true =>
      refine AA.ref hI (i := 2) (by omega) ?_ (fun Mr hMr => ?_)
      · rw [u_X11_fold]
        (rw [E_hasMin (d + 56) hC.1 (nI m), ra_I]; simp only [Option.bind_some])
        rw [hk, if_neg (show ¬ mb true = 0 by decide)]
        (rw [E_isInside (d + 58) M m, ra_I]; simp only [Option.bind_some])
        rw [hb, if_neg (show ¬ mb true = 0 by decide)]
        (rw [E_ref2 (d + 57) M, ra_I]; simp only [Option.bind_some])
      · have r77 : mm_I Mr 77 = mm_I M 77 := by rw [hMr, I_wn (by decide)]
        have hCr : CT n xs N gv Mr nc nm := by rw [hMr]; exact hI.ct57
        rw [u_X12_fold]
        (rw [E_isMin (d + 57) hCr.1 (nI m), ra_I]; simp only [Option.bind_some])
        rw [hk, if_neg (show ¬ mb true = 0 by decide)]
        (rw [E_has (d + 58) Mr _ m, ra_I]; simp only [Option.bind_some])
        rw [eib Mr r77, hb, if_neg (show ¬ mb true = 0 by decide), E_isr2 (d + 58) _, ra_I, Option.bind_some]
        dsimp only
        rw [if_neg (by decide)]
    | false =>
      have ecf : ∀ Mx, mm_I Mx 77 = mm_I M 77 → mm_I Mx 76 = mm_I M 76 → cfR (mm_I Mx 76) (mm_I Mx 77) m = cfN (mm_I M 33) (nowX M) m := fun Mx e e' => by
        rw [e, e']
        exact cfN_cfR hC.1 hm hI.pz.1
      cases hc : cfN (mm_I M 33) (nowX M) m with
      | false =>
        refine AA.ref hI (i := 3) (by omega) ?_ (fun Mr hMr => ?_)
        · rw [u_X11_fold]
          (rw [E_hasMin (d + 56) hC.1 (nI m), ra_I]; simp only [Option.bind_some])
          rw [hk, if_neg (show ¬ mb true = 0 by decide)]
          (rw [E_isInside (d + 58) M m, ra_I]; simp only [Option.bind_some])
          rw [hb, if_pos (show mb false = 0 by decide)]
          (rw [E_canX (d + 55) M (m := m) (by omega), ra_I]; simp only [Option.bind_some])
          rw [hc, if_pos (show mb false = 0 by decide)]
          (rw [E_ref3 (d + 57) M, ra_I]; simp only [Option.bind_some])
        · have r77 : mm_I Mr 77 = mm_I M 77 := by rw [hMr, I_wn (by decide)]
          have r76 : mm_I Mr 76 = mm_I M 76 := by rw [hMr, I_wn (by decide)]
          have hCr : CT n xs N gv Mr nc nm := by rw [hMr]; exact hI.ct57
          rw [u_X12_fold]
          (rw [E_isMin (d + 57) hCr.1 (nI m), ra_I]; simp only [Option.bind_some])
          rw [hk, if_neg (show ¬ mb true = 0 by decide)]
          (rw [E_has (d + 58) Mr _ m, ra_I]; simp only [Option.bind_some])
          rw [eib Mr r77, hb, if_pos (show mb false = 0 by decide)]
          (rw [E_canM (d + 57) Mr (m := m) (by omega), ra_I]; simp only [Option.bind_some])
          rw [ecf Mr r77 r76, hc, if_pos (show mb false = 0 by decide), E_isr3 (d + 58) _, ra_I, Option.bind_some]
          dsimp only
          rw [if_neg (by decide)]
      | true =>
        obtain ⟨Ma, h1, o, e1, hK, fa, hCa, low⟩ := goX hI (d + 56)
        obtain ⟨M1, e2, s2, r2⟩ := E_foldX (n := n) (xs := xs) (N := N) (d + 55) Ma (m := m) (by omega)
        obtain ⟨Mb, e3, hS, hMP, fb, RTb, GMb, r77⟩ := goM hI (d + 58) hK s2.bx
        obtain ⟨M2, e4, s4, r4⟩ := E_foldM (n := n) (xs := xs) (N := N) (d + 56) Mb (m := m) (by omega)
        have l41 : mm_I M1 41 = mm_I M 41 := (s2.I (by decide)).trans (low 41 (by decide) (by decide))
        have f1 := fa.bx hI s2.bx
        have b76 : mm_I Mb 76 = mm_I M 76 := fb.1 76 (by decide) (by decide)
        have hZ : RZ (mm_I M 33) nc nm (mm_I M1 41) (nowX M1) (mm_I M2 77) (Dk 0) := by
          rw [l41, r2, r4, r77, low_nX low, b76, low 33 (by decide) (by decide)]
          exact hI.pz.1.fold hC.1 hm
        have fin := act_z hI hK s2.bx hS hMP s4.bm hZ ⟨Nat.le_refl _, by omega⟩ (fun x _ => by rw [l41])
        have m77 : mm_I M1 77 = mm_I M 77 := (s2.I (by decide)).trans (low 77 (by decide) (by decide))
        have m76 : mm_I M1 76 = mm_I M 76 := (s2.I (by decide)).trans (low 76 (by decide) (by decide))
        have hRT1 := (CT.fa3 hI f1).1
        refine ⟨mm_I M1 35 0, M1, M2, ?_, ?_, fin⟩
        · rw [u_X11_fold]
          (rw [E_hasMin (d + 56) hC.1 (nI m), ra_I]; simp only [Option.bind_some])
          rw [hk, if_neg (show ¬ mb true = 0 by decide)]
          (rw [E_isInside (d + 58) M m, ra_I]; simp only [Option.bind_some])
          rw [hb, if_pos (show mb false = 0 by decide)]
          (rw [E_canX (d + 55) M (m := m) (by omega), ra_I]; simp only [Option.bind_some])
          rw [hc, if_neg (show ¬ mb true = 0 by decide), e1, ra_V, Option.bind_some, e2, ra_V, Option.bind_some]
        · rw [u_X12_fold]
          (rw [E_isMin (d + 57) hRT1 (nI m), ra_I]; simp only [Option.bind_some])
          rw [hk, if_neg (show ¬ mb true = 0 by decide)]
          (rw [E_has (d + 58) M1 _ m, ra_I]; simp only [Option.bind_some])
          rw [eib M1 m77, hb, if_pos (show mb false = 0 by decide)]
          (rw [E_canM (d + 57) M1 (m := m) (by omega), ra_I]; simp only [Option.bind_some])
          rw [ecf M1 m77 m76, hc, if_neg (show ¬ mb true = 0 by decide), E_isRefN (d + 58) _, ra_I, Option.bind_some]
          dsimp only
          rw [if_pos rfl, e3, ra_V, Option.bind_some, e4, ra_V, Option.bind_some, hZ.1.1, nX (by omega)]
/-- hours -/
theorem XR.rt (hI : IV n xs N gv M0 nc nm k p z h bs rs Dk im) (hA : XA n xs M0 M) : RT M nc nm := hI.1.1.fa hA.fa
theorem L_hoursX {p0 z0 : Nat} {bs0 : Nat → Nat → Int32} (hI : IV n xs N gv M0 nc nm k p0 z0 h0 bs0 rs Dk im) (d t : Nat) (ht : t < 1000) : ∀ (j i f : Nat) (M : mmM) (p z h : Nat) (bs : Nat → Nat → Int32), i + j = t → j < f → XR n xs M0 h0 M p z h bs → mm_I M 41 = mm_I M0 41 → ∃ M1 p' h', lp_X11_hours n xs N (d + 6) f 31 [some (.ref 16), some (.int (nI t)), some (.int (nI i))] [] M = some (some (.int (mm_I M1 35 0)), M1) ∧ XR n xs M0 h0 M1 p' (min 40 (z + j)) h' (itK (hourB (mm_I M0 33) nm) id j (nowX M) bs) ∧ mm_I M1 41 = mm_I M0 41 ∧ nowX M1 = itS (hourB (mm_I M0 33) nm) j (nowX M) := by
  intro j
  induction j with
  | zero =>
    intro i f M p z h bs hij hf hR h41
    obtain ⟨f, rfl⟩ : ∃ g, f = g + 1 := ⟨f - 1, by omega⟩
    refine ⟨M, p, h, ?_, ?_, h41, rfl⟩
    · rw [lu_X11_hours_31, if_pos (nI_le (by omega) (by omega))]
    · rw [Nat.add_zero, Nat.min_eq_right hR.2.1.2.2.2.1]; exact hR
  | succ j ih =>
    intro i f M p z h bs hij hf hR h41
    obtain ⟨f, rfl⟩ : ∃ g, f = g + 1 := ⟨f - 1, by omega⟩
    have hN := hI.nN
    obtain ⟨Ma, h1, o, e1, hK⟩ := E_keepX (n := n) (xs := xs) (N := N) (d + 3) hR.2.1
    have o87 : 87 ≤ o := hK.2.2.2.2.2.1.1
    have low : ∀ a, a < 87 → a ≠ 38 → mm_I Ma a = mm_I M a := fun a ha a0 => hK.1 a a0 (by omega)
    have hRa : RT Ma nc nm := (hR.kx hI.n87 hK BX.rf).1.fa |> fun f => hI.1.1.fa f
    obtain ⟨M1, e2, s2, r2⟩ := E_hourX (n := n) (xs := xs) (N := N) hRa (by omega) d
    have hR1 := hR.kx hI.n87 hK s2.bx
    have e33 : mm_I Ma 33 = mm_I M0 33 := (low 33 (by decide) (by decide)).trans (hR.1.1 33 (by decide) (by decide) (by decide) (by decide) (by decide) (by decide) (by decide) (by decide))
    have l41 : mm_I M1 41 = mm_I M0 41 := ((s2.I (by decide)).trans (low 41 (by decide) (by decide))).trans h41
    have r2' : nowX M1 = hourB (mm_I M0 33) nm (nowX M) := by rw [r2, e33, low_nX low]
    obtain ⟨M2, p', h', e3, x1, x2, x3⟩ := ih (i + 1) f M1 _ _ _ _ (by omega) (by omega) hR1 l41
    refine ⟨M2, p', h', ?_, ?_, x2, ?_⟩
    · rw [lu_X11_hours_31, if_neg (nI_ge (show i < t by omega) (by omega)), e1, ra_V, Option.bind_some, e2, ra_V, Option.bind_some, nI_1]
      exact e3
    · rw [show min 40 (z + (j + 1)) = min 40 (min 40 (z + 1) + j) by omega]
      rw [r2'] at x1
      exact x1
    · rw [x3, r2']
      rfl
theorem hourR_cg (h1 : mm_I M' 74 = mm_I M 74) (h2 : mm_I M' 76 = mm_I M 76) : hourR M' nm = hourR M nm := by
  funext r
  unfold hourR snR
  rw [h1, h2]
theorem L_hoursM (hRT : RT M0 nc nm) (hN : 10000 ≤ N) (d t : Nat) (ht : t < 1000) : ∀ (j i f : Nat) (M : mmM) (z : Nat) (rs : Nat → Nat → Int32), i + j = t → j < f → z ≤ 40 → MA M0 M → MP M z rs → ∃ M1, lp_X12_hours n xs N (d + 4) f 37 [some (.ref 60), some (.int (nI t)), some (.int (nI i))] [] M = some (some (.int (mm_I M1 77 8)), M1) ∧ MA M0 M1 ∧ MP M1 (min 40 (z + j)) (itK (hourR M0 nm) id j (mm_I M 77) rs) ∧ mm_I M1 77 = itS (hourR M0 nm) j (mm_I M 77) := by
  intro j
  induction j with
  | zero =>
    intro i f M z rs hij hf hz hA hM
    obtain ⟨f, rfl⟩ : ∃ g, f = g + 1 := ⟨f - 1, by omega⟩
    refine ⟨M, ?_, hA, ?_, rfl⟩
    · rw [lu_X12_hours_37, if_pos (nI_le (by omega) (by omega))]
    · rw [Nat.add_zero, Nat.min_eq_right hz]; exact hM
  | succ j ih =>
    intro i f M z rs hij hf hz hA hM
    obtain ⟨f, rfl⟩ : ∃ g, f = g + 1 := ⟨f - 1, by omega⟩
    obtain ⟨Mb, e1, hS, hMP⟩ := E_keepM (n := n) (xs := xs) (N := N) hN (d + 3) hz hM
    have hAb := hA.tr hS.ma
    have hRb : RT Mb nc nm := hRT.mv (by rw [hAb.I (by decide) (by decide) (by decide) (by decide) (by decide) (by decide)]) (hAb.I (by decide) (by decide) (by decide) (by decide) (by decide) (by decide)) (hAb.2.2.2.2.2 25 (by decide)) (hAb.2.2.2.2.2 26 (by decide)) (hAb.I (by decide) (by decide) (by decide) (by decide) (by decide) (by decide)) (hAb.I (by decide) (by decide) (by decide) (by decide) (by decide) (by decide)) (hAb.I (by decide) (by decide) (by decide) (by decide) (by decide) (by decide)) (hAb.I (by decide) (by decide) (by decide) (by decide) (by decide) (by decide))
    obtain ⟨M1, e2, s2, r2⟩ := E_hourM (n := n) (xs := xs) (N := N) hRb (by omega) d
    have b77 : mm_I Mb 77 = mm_I M 77 := hS.2.2.2.2.2.1 77 (by decide) (by decide)
    have r2' : mm_I M1 77 = hourR M0 nm (mm_I M 77) := by rw [r2, b77, hourR_cg (hAb.I (by decide) (by decide) (by decide) (by decide) (by decide) (by decide)) (hAb.I (by decide) (by decide) (by decide) (by decide) (by decide) (by decide))]
    obtain ⟨M2, e3, x1, x2, x3⟩ := ih (i + 1) f M1 _ _ (by omega) (by omega) (by omega) (hAb.tr s2.bm.ma) (hMP.bm s2.bm)
    refine ⟨M2, ?_, x1, ?_, ?_⟩
    · rw [lu_X12_hours_37, if_neg (nI_ge (show i < t by omega) (by omega)), e1, ra_V, Option.bind_some, e2, ra_V, Option.bind_some, nI_1]
      exact e3
    · rw [show min 40 (z + (j + 1)) = min 40 (min 40 (z + 1) + j) by omega]
      rw [r2'] at x2
      exact x2
    · rw [x3, r2']
      rfl
theorem A_hours (hI : IV n xs N gv M nc nm k p z h bs rs Dk im) (d : Nat) (x : Int32) : AA n xs N (d + 60) gv nc nm M 131 [.ref 16, .int x] 247 [.ref 60, .int x] := by
  have hC := hI.ct
  have h4 := hC.nc4
  have hN := hI.nN
  by_cases h0 : nm = 0
  · refine AA.ref hI (i := 0) (by omega) ?_ (fun Mr hMr => ?_)
    · rw [u_X11_hours, if_pos (hC.X0 h0).1]
      (rw [E_ref0 (d + 57) M, ra_I]; simp only [Option.bind_some])
    · subst hMr
      rw [u_X12_hours, if_pos (hI.ct57.X0 h0).2, E_isr0 (d + 58) _, ra_I, Option.bind_some]
      dsimp only
      rw [if_neg (by decide)]
  cases hw : wi 1 x 20 with
  | false =>
    refine AA.ref hI (i := 1) (by omega) ?_ (fun Mr hMr => ?_)
    · rw [u_X11_hours, if_neg (hC.X1 h0).1]
      (rw [E_isWithin (d + 58) M 1 x 20, ra_I]; simp only [Option.bind_some])
      rw [hw, if_pos (show mb false = 0 by decide)]
      (rw [E_ref1 (d + 57) M, ra_I]; simp only [Option.bind_some])
    · subst hMr
      rw [u_X12_hours, if_neg (hI.ct57.X1 h0).2]
      (rw [E_in (d + 58) _ x 1 20, ra_I]; simp only [Option.bind_some])
      rw [hw, if_pos (show mb false = 0 by decide), E_isr1 (d + 58) _, ra_I, Option.bind_some]
      dsimp only
      rw [if_neg (by decide)]
  | true =>
    obtain ⟨t, t1, t2, rfl⟩ := wi_1t (k := 20) (by decide) hw
    obtain ⟨M1, p', h', e1, x1, x2, x3⟩ := L_hoursX hI (d + 53) t (by omega) t 0 N M p z h bs (by omega) (by omega) hI.xr rfl
    have f1 := x1.1.fa
    have RT1 : RT M1 nc nm := hC.1.fa f1
    have hz := hI.2.2.1.2.2.2.1
    obtain ⟨M2, e2, y1, y2, y3⟩ := L_hoursM (n := n) (xs := xs) (N := N) RT1 hN (d + 55) t (by omega) t 0 N M1 z rs (by omega) (by omega) hz MA.rf (hI.2.2.2.2.1.xa x1.1)
    have m77 : mm_I M1 77 = mm_I M 77 := x1.1.1 77 (by decide) (by decide) (by decide) (by decide) (by decide) (by decide) (by decide) (by decide)
    have hh : hourR M1 nm = hourR M nm := hourR_cg (x1.1.1 74 (by decide) (by decide) (by decide) (by decide) (by decide) (by decide) (by decide) (by decide)) (x1.1.1 76 (by decide) (by decide) (by decide) (by decide) (by decide) (by decide) (by decide) (by decide))
    rw [m77, hh] at y2 y3
    obtain ⟨-, Dk', hP⟩ := PZ.it (e := mm_I M 33) (S := hourB (mm_I M 33) nm) (T := hourR M nm) (dyO := fun _ => mm_I M 41) (bO := id) (rO := id) h4 (fun _ _ => True) (Dk 0 + t + 1) (fun s u D _ _ hz => ⟨trivial, D, RZ.hour hC.1 hz, Nat.le_refl _, by omega, fun _ _ => rfl⟩) t (nowX M) (mm_I M 77) z bs rs Dk trivial hz (by omega) hI.pz
    have fin := hI.fin x1 y1 y2 (Dk' := Dk') (by rw [x2, x3, y3]; exact hP)
    refine ⟨mm_I M1 35 0, M1, M2, ?_, ?_, fin⟩
    · rw [u_X11_hours, if_neg (hC.X1 h0).1]
      (rw [E_isWithin (d + 58) M 1 (nI t) 20, ra_I]; simp only [Option.bind_some])
      rw [hw, if_neg (show ¬ mb true = 0 by decide)]
      rw [nI_0] at e1
      exact e1
    · rw [u_X12_hours, f1.2.2.1 26 (by decide) (by omega), if_neg (hC.X1 h0).2]
      (rw [E_in (d + 58) M1 (nI t) 1 20, ra_I]; simp only [Option.bind_some])
      rw [hw, if_neg (show ¬ mb true = 0 by decide), E_isRefN (d + 58) _, ra_I, Option.bind_some]
      dsimp only
      rw [nI_0] at e2
      rw [if_pos rfl]
      refine e2.trans ?_
      have hq := hP.1.1.1
      have hq' : mm_I M2 77 8 = mm_I M1 35 0 := by
        rw [y3, ← nX (M := M1) (j := 0) (by omega), x3]
        exact hq
      rw [hq']
end DO
