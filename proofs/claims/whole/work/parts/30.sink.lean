/-! sinking, doors: of the class, and of the model's row -/
theorem c30 : ((3 : Int32) = 0) = False := by simp
theorem i_max0 {a b : Nat} (ha : a < 2 ^ 30) (hb : b < 2 ^ 30) : i_max 0 (nI a - nI b) = nI (a - b) := by
  unfold i_max
  by_cases h : b < a
  · rw [pk_sub (by omega), if_pos (show (0 : Int32) < nI (a - b) from nI_lt (a := 0) (by omega) (by omega))]
  · rw [show a - b = 0 by omega, nI_0]
    apply if_neg
    intro q
    have h1 := Int32.lt_iff_toInt_lt.mp q
    rw [pk_sub_toInt ha hb] at h1
    have h0 : (0 : Int32).toInt = 0 := by decide
    omega
theorem held_nI {a : Nat} (ha : a ≤ 99) : i_max 0 (i_min 99 (nI a)) = nI a := by
  rw [show (99 : Int32) = nI 99 from rfl, i_min_nI (by omega) (by omega), Nat.min_eq_right ha]
  have := i_max0 (a := a) (b := 0) (by omega) (by omega)
  rwa [show nI 0 = (0 : Int32) from rfl, Int32.sub_zero, Nat.sub_zero] at this
theorem i_max_pos (x : Int32) : ∃ k : Nat, k < 2 ^ 31 ∧ i_max 0 x = nI k := by
  unfold i_max
  by_cases h : (0 : Int32) < x
  · rw [if_pos h]
    obtain ⟨k, hk, e⟩ := nI_of (x := x) (fun q => by
      have h1 := Int32.lt_iff_toInt_lt.mp q
      have h2 := Int32.lt_iff_toInt_lt.mp h
      omega)
    exact ⟨k, hk, e⟩
  · rw [if_neg h]
    exact ⟨0, by omega, rfl⟩
/-- held, what sinks from s by x -/
theorem held_sub {s : Nat} (hs : s ≤ 99) (x : Int32) : i_max 0 (i_min 99 (nI s - i_max 0 x)) = i_max 0 (nI s - i_max 0 x) := by
  obtain ⟨k, hk, e⟩ := i_max_pos x
  rw [e]
  have h99 : ¬ nI s - nI k < 99 → nI s - nI k = 99 := by
    intro q
    have e1 : (nI s - nI k).toInt = (s : Int) - k := by rw [t_sub, nI_toInt (by omega), nI_toInt hk] <;> rw [nI_toInt (by omega), nI_toInt hk] <;> omega
    have h2 : ¬ (nI s - nI k).toInt < 99 := fun w => q (Int32.lt_iff_toInt_lt.mpr (by rw [show (99 : Int32).toInt = 99 by decide]; exact w))
    apply Int32.toInt_inj.mp
    rw [show (99 : Int32).toInt = 99 by decide]
    omega
  have : i_min 99 (nI s - nI k) = nI s - nI k := by
    unfold i_min
    by_cases q : nI s - nI k < 99
    · rw [if_pos q]
    · rw [if_neg q, h99 q]
  rw [this]
def skI (M : mmM) (nm : Nat) : Int32 := i_max 0 (1 + mm_I M 33 0 / 3 + wgt M nm / 4 - mm_I M 35 3)
/-- by how much it sinks, off the model's row -/
def snR (M : mmM) (nm : Nat) (r : Nat → Int32) : Int32 := i_max 0 (1 + mm_I M 74 0 / 3 + sumIn (r 10) (fun m => mm_I M 76 (4 * m + 0)) nm / 4 - r 11)
def mfall (r : Nat → Int32) : Nat → Int32 := fun k => if r 8 = 0 ∧ ¬ r 10 = 0 then (if k = 15 then r 15 + 1 else if k = 10 then 0 else r k) else r k
def up8 (v : Int32) (r : Nat → Int32) : Nat → Int32 := fun k => if k = 8 then v else r k
def doorR (r : Nat → Int32) : Nat → Int32 := mfall (up8 (r 8 / 2) r)
def hourR (M : mmM) (nm : Nat) (r : Nat → Int32) : Nat → Int32 := mfall (up8 (i_max 0 (i_min 99 (r 8 - snR M nm r))) r)
theorem mfall_8 (r : Nat → Int32) : mfall r 8 = r 8 := by unfold mfall; split <;> rfl
theorem mfall_11 (r : Nat → Int32) : mfall r 11 = r 11 := by unfold mfall; split <;> rfl
theorem mfall_10 {r : Nat → Int32} (h : ¬ r 8 = 0) : mfall r 10 = r 10 := by unfold mfall; rw [if_neg (fun q => h q.1)]
theorem mfall_hi (r : Nat → Int32) {k : Nat} (h : 16 ≤ k) : mfall r k = r k := by
  unfold mfall
  rw [if_neg (show ¬ k = 15 by omega), if_neg (show ¬ k = 10 by omega)]
  split <;> rfl
section SK
variable {n : Nat} {xs : Nat → Int32} {N : Nat} {gv : Int32 → Int32 → Int32 → Int32 → Int32} {M M' : mmM} {nc nm : Nat}
theorem wgt_fr (f : FR M M') : wgt M' nm = wgt M nm := by
  unfold wgt
  rw [f.I (show scr 35 = false by decide), f.I (show scr 33 = false by decide)]
theorem wth_fr (f : FR M M') : wth M' nm = wth M nm := by
  unfold wth
  rw [f.I (show scr 35 = false by decide), f.I (show scr 33 = false by decide)]
theorem skI_fr (f : FR M M') : skI M' nm = skI M nm := by
  unfold skI
  rw [wgt_fr f, f.I (show scr 35 = false by decide), f.I (show scr 33 = false by decide)]
theorem CT.ag (h : CT n xs N gv M nc nm) : bd 0 9 (mm_I M 33 0) := h.1.2.2.2.2.2.2.2.2.2.2.2.1
theorem CT.mi (h : CT n xs N gv M nc nm) {m : Nat} (hm : m < nm) : bd 0 9 (mm_I M 33 (12 + m * 4)) ∧ bd 0 9 (mm_I M 33 (12 + m * 4 + 1)) ∧ bd 0 40 (mm_I M 33 (12 + m * 4 + 2)) ∧ bd 0 9 (mm_I M 33 (12 + m * 4 + 3)) := h.1.2.2.2.2.2.2.2.2.2.2.2.2.2.2 m hm
theorem CT.su (h : CT n xs N gv M nc nm) : bd 0 9 (mm_I M 35 3) := h.2.1.2.2.2.2.2.2.2.2.2.2.2.2.2.1
theorem CT.r74 (h : CT n xs N gv M nc nm) {k : Nat} (hk : k < 4) : mm_I M 74 k = mm_I M 33 k := h.1.2.2.2.2.2.2.2.2.1 k hk
theorem CT.c76 (h : CT n xs N gv M nc nm) {m w : Nat} (hm : m < nm) (hw : w < 4) : mm_I M 76 (4 * m + w) = mm_I M 33 (12 + m * 4 + w) := h.1.2.2.2.2.2.2.2.2.2.2.1 m w hm hw
theorem CT.wgtN (h : CT n xs N gv M nc nm) : ∃ k : Nat, k ≤ 63 ∧ wgt M nm = nI k := by
  have h7 := h.nm7
  have := sumIn_bd (s := mm_I M 35 2) (f := fun m => mm_I M 33 (12 + m * 4 + 0)) (b := 9) (k := nm) (by omega) (fun m hm => (h.mi hm).1)
  exact bd_nI (h := 63) (x := wgt M nm) (by unfold bd at this ⊢; unfold wgt; omega)
theorem CT.wthN (h : CT n xs N gv M nc nm) : ∃ k : Nat, k ≤ 63 ∧ wth M nm = nI k := by
  have h7 := h.nm7
  have := sumIn_bd (s := mm_I M 35 2) (f := fun m => mm_I M 33 (12 + m * 4 + 1)) (b := 9) (k := nm) (by omega) (fun m hm => (h.mi hm).2.1)
  exact bd_nI (h := 63) (x := wth M nm) (by unfold bd at this ⊢; unfold wth; omega)
theorem CT.skN (h : CT n xs N gv M nc nm) : ∃ k : Nat, k ≤ 19 ∧ skI M nm = nI k := by
  obtain ⟨a, ha, ea⟩ := bd_nI (h := 9) h.ag
  obtain ⟨g, hg, eg⟩ := h.wgtN
  obtain ⟨u, hu, eu⟩ := bd_nI (h := 9) h.su
  refine ⟨1 + a / 3 + g / 4 - u, by omega, ?_⟩
  unfold skI
  rw [ea, eg, eu, show (3 : Int32) = nI 3 from rfl, show (4 : Int32) = nI 4 from rfl, pk_div (by omega) (by omega) (by omega), pk_div (by omega) (by omega) (by omega), show (1 : Int32) = nI 1 from rfl, nI_add, nI_add, i_max0 (by omega) (by omega)]
theorem T1 (h : CT n xs N gv M nc nm) (d : Nat) : mm_E n xs N (d + 4) 112 [.ref 16, .int 0] M = some (some (.int (wgt M nm)), M) := by
  have hN := h.nN
  exact E_weightX d h.1 (by omega)
theorem T2 (d : Nat) : mm_E n xs N (d + 3) 94 [.ref 32, .int 0, .int 0, .int 0] M = some (some (.int (mm_I M 33 0)), M) := by
  have er := E_rule (n := n) (xs := xs) (N := N) d M 0 (by omega)
  rw [nI_0] at er
  exact er
theorem E_sinksX (h : CT n xs N gv M nc nm) (d : Nat) : mm_E n xs N (d + 5) 121 [.ref 16] M = some (some (.int (skI M nm)), M) := by
  rw [u_X11_sinksBy]
  simp only [c30, c40, if_false, T1 h d, T2 (d + 1), ra_I, Option.bind_some, E_max (d + 3)]
  unfold skI
  rfl
theorem E_sinksR (hR : RT M nc nm) (hN : 100 ≤ N) (d : Nat) : mm_E n xs N (d + 3) 231 [.ref 60] M = some (some (.int (snR M nm (mm_I M 77))), M) := by
  have hnm := hR.2.1
  rw [u_X12_sinks]
  simp only [c30, c40, if_false]
  have e : mm_E n xs N (d + 2) 229 [.ref 60] M = some (some (.int (sumIn (mm_I M 77 10) (fun m => mm_I M 76 (4 * m + 0)) nm)), M) := by
    rw [u_X12_weightIn]
    exact L_weightIn (n := n) (xs := xs) (N := N) d hR nm 0 N 0 (by omega) (by omega)
  (rw [e, ra_I]; simp only [Option.bind_some])
  (rw [E_max (d + 1) M _ _, ra_I]; simp only [Option.bind_some])
  unfold snR
  rfl
theorem E_mayFall (d : Nat) (M : mmM) : ∃ M1, mm_E n xs N (d + 1) 232 [.ref 60] M = some (none, M1) ∧ S1 77 M M1 ∧ mm_I M1 77 = mfall (mm_I M 77) := by
  rw [u_X12_mayFall]
  by_cases h8 : mm_I M 77 8 = 0
  · rw [if_pos h8]
    by_cases h10 : mm_I M 77 10 = 0
    · rw [if_pos h10]
      refine ⟨M, rfl, ⟨rfl, rfl, rfl, rfl, rfl, fun _ _ => rfl⟩, ?_⟩
      funext k
      unfold mfall
      rw [if_neg (fun q => q.2 h10)]
    · rw [if_neg h10]
      refine ⟨_, rfl, ⟨rfl, rfl, rfl, rfl, rfl, fun b hb => by rw [I_wn hb, I_wn hb]⟩, ?_⟩
      funext k
      unfold mfall
      rw [if_pos ⟨h8, h10⟩, I_w, if_pos rfl, I_w, if_pos rfl]
  · rw [if_neg h8]
    refine ⟨M, rfl, ⟨rfl, rfl, rfl, rfl, rfl, fun _ _ => rfl⟩, ?_⟩
    funext k
    unfold mfall
    rw [if_neg (fun q => h8 q.1)]
theorem S1.tr {a : Nat} {M M1 M2 : mmM} (h : S1 a M M1) (g : S1 a M1 M2) : S1 a M M2 := ⟨g.1.trans h.1, g.2.1.trans h.2.1, g.2.2.1.trans h.2.2.1, g.2.2.2.1.trans h.2.2.2.1, g.2.2.2.2.1.trans h.2.2.2.2.1, fun b hb => (g.2.2.2.2.2 b hb).trans (h.2.2.2.2.2 b hb)⟩
theorem S1.wI {a k : Nat} {v : Int32} {M : mmM} : S1 a M (mm_wI M a k v) := ⟨rfl, rfl, rfl, rfl, rfl, fun _ hb => I_wn hb⟩
theorem S1.I {a b : Nat} {M M1 : mmM} (h : S1 a M M1) (hb : b ≠ a) : mm_I M1 b = mm_I M b := h.2.2.2.2.2 b hb
theorem S1.rf {a : Nat} {M : mmM} : S1 a M M := ⟨rfl, rfl, rfl, rfl, rfl, fun _ _ => rfl⟩
theorem w8 (M : mmM) (v : Int32) : mm_I (mm_wI M 77 8 v) 77 = up8 v (mm_I M 77) := by
  funext k
  rw [I_w, if_pos rfl]
  rfl
theorem E_doorM (d : Nat) (M : mmM) : ∃ M1, mm_E n xs N (d + 2) 233 [.ref 60] M = some (none, M1) ∧ S1 77 M M1 ∧ mm_I M1 77 = doorR (mm_I M 77) := by
  obtain ⟨M1, e1, s1, r1⟩ := E_mayFall (n := n) (xs := xs) (N := N) d (mm_wI M 77 8 (mm_I M 77 8 / 2))
  refine ⟨M1, ?_, S1.wI.tr s1, ?_⟩
  · rw [u_X12_doorNow]
    simp only [c20, if_false]
    (rw [e1, ra_V]; simp only [Option.bind_some])
  · rw [r1, w8]
    rfl
theorem E_hourM (hR : RT M nc nm) (hN : 100 ≤ N) (d : Nat) : ∃ M1, mm_E n xs N (d + 4) 234 [.ref 60] M = some (none, M1) ∧ S1 77 M M1 ∧ mm_I M1 77 = hourR M nm (mm_I M 77) := by
  obtain ⟨M1, e1, s1, r1⟩ := E_mayFall (n := n) (xs := xs) (N := N) (d + 2) (mm_wI M 77 8 (i_max 0 (i_min 99 (mm_I M 77 8 - snR M nm (mm_I M 77)))))
  refine ⟨M1, ?_, S1.wI.tr s1, ?_⟩
  · rw [u_X12_hourNow]
    (rw [E_sinksR hR hN d, ra_I]; simp only [Option.bind_some])
    (rw [E_held (d + 1) M _, ra_I]; simp only [Option.bind_some])
    (rw [e1, ra_V]; simp only [Option.bind_some])
  · rw [r1, w8]
    rfl
/-- how it stands, off the model's row r, against the row r0 of the beginning -/
def TK (r0 r : Nat → Int32) (s : Nat) : Prop := r 8 = nI s ∧ s ≤ 99 ∧ r 11 = r0 11 ∧ (s ≠ 0 → r 10 = r0 10) ∧ ∀ k, 17 ≤ k → r k = r0 k
theorem TK_door {r0 r : Nat → Int32} {s : Nat} (h : TK r0 r s) : TK r0 (doorR r) (s / 2) := by
  obtain ⟨h1, h2, h3, h4, h5⟩ := h
  unfold doorR
  refine ⟨?_, by omega, ?_, fun hs => ?_, fun k hk => ?_⟩
  · rw [mfall_8]
    unfold up8
    rw [if_pos rfl, h1, show (2 : Int32) = nI 2 from rfl, pk_div (by omega) (by omega) (by omega)]
  · rw [mfall_11]
    exact h3
  · rw [mfall_10]
    · exact h4 (by omega)
    · unfold up8
      rw [if_pos rfl, h1, show (2 : Int32) = nI 2 from rfl, pk_div (by omega) (by omega) (by omega)]
      exact nI_ne0 (by omega) (by omega)
  · rw [mfall_hi _ (by omega)]
    unfold up8
    rw [if_neg (by omega)]
    exact h5 k hk
theorem TK_hour {r0 r : Nat → Int32} {s B : Nat} (hB : B ≤ 19) (h : TK r0 r s) (hs : snR M nm r0 = nI B) : TK r0 (hourR M nm r) (s - B) := by
  obtain ⟨h1, h2, h3, h4, h5⟩ := h
  have key : i_max 0 (i_min 99 (r 8 - snR M nm r)) = nI (s - B) := by
    by_cases h0 : s = 0
    · have h1' := h1
      unfold snR
      rw [h1, held_sub h2]
      obtain ⟨k, hk, e⟩ := i_max_pos (1 + mm_I M 74 0 / 3 + sumIn (r 10) (fun m => mm_I M 76 (4 * m + 0)) nm / 4 - r 11)
      rw [e, h0, show 0 - B = 0 by omega, show nI 0 = (0 : Int32) from rfl]
      unfold i_max
      by_cases q : (0 : Int32) < 0 - nI k
      · exfalso
        have q1 := Int32.lt_iff_toInt_lt.mp q
        rw [t_sub, nI_toInt hk] at q1 <;> (try rw [nI_toInt hk]) <;> (have : (0 : Int32).toInt = 0 := by decide) <;> omega
      · rw [if_neg q]
    · have e : snR M nm r = snR M nm r0 := by
        unfold snR
        rw [h3, h4 h0]
      have hb := held_sub h2 (1 + mm_I M 74 0 / 3 + sumIn (r0 10) (fun m => mm_I M 76 (4 * m + 0)) nm / 4 - r0 11)
      have hs' : i_max 0 (1 + mm_I M 74 0 / 3 + sumIn (r0 10) (fun m => mm_I M 76 (4 * m + 0)) nm / 4 - r0 11) = nI B := hs
      rw [hs'] at hb
      rw [e, hs, h1, hb, i_max0 (by omega) (by omega)]
  unfold hourR
  refine ⟨?_, by omega, ?_, fun hs => ?_, fun k hk => ?_⟩
  · rw [mfall_8]
    unfold up8
    rw [if_pos rfl, key]
  · rw [mfall_11]
    exact h3
  · rw [mfall_10]
    · exact h4 (by omega)
    · unfold up8
      rw [if_pos rfl, key]
      exact nI_ne0 (by omega) (by omega)
  · rw [mfall_hi _ (by omega)]
    unfold up8
    rw [if_neg (by omega)]
    exact h5 k hk
theorem CT.snk (h : CT n xs N gv M nc nm) : snR M nm (mm_I M 77) = skI M nm := by
  unfold snR skI
  rw [h.r74 (by omega), h.b10, h.b11]
  have e : sumIn (mm_I M 35 2) (fun m => mm_I M 76 (4 * m + 0)) nm = wgt M nm := sumIn_congr (fun m hm => h.c76 hm (by omega))
  rw [e]
theorem snR_S1 {a : Nat} (h : S1 a M M') (h1 : a ≠ 74) (h2 : a ≠ 76) : snR M' nm = snR M nm := by
  funext r
  unfold snR
  rw [h.I (Ne.symm h1), h.I (Ne.symm h2)]
theorem RT.s1 {a : Nat} (h : RT M nc nm) (s : S1 a M M') (ha : 77 ≤ a) : RT M' nc nm := h.mv (by rw [s.I (by omega)]) (s.I (by omega)) (by rw [s.I (by omega)]) (by rw [s.I (by omega)]) (s.I (by omega)) (s.I (by omega)) (s.I (by omega)) (s.I (by omega))
theorem S1.sn {M M1 : mmM} (h : S1 77 M M1) : SN M M1 (mm_I M1 77) := ⟨h.1, h.2.1, h.2.2.1, h.2.2.2.1, h.2.2.2.2.1, fun _ _ _ h3 => h.I h3, rfl⟩
end SK
