/-! a day ends -/
def dayB (e : Nat → Int32) (nm : Nat) (b : Nat → Int32) : Nat → Int32 := fun k => if k = 3 then 0 else if k = 2 then 0 else if k = 1 then 0 else if k = 0 then 0 else if k = 8 then b 8 + 1 else if k = 5 then i_min 999 (b 5 + 2) else if k = 6 then i_min 9999 (b 6 + sumIn (b 2) (fun m => e (12 + m * 4 + 1)) nm) else if 9 ≤ k ∧ k < 13 then 0 else b k
def dayY (D : Nat) (b dy : Nat → Int32) : Nat → Int32 := fun x => if x = D % 100 * 3 + 2 then b 1 else if x = D % 100 * 3 + 1 then b 2 else if x = D % 100 * 3 then b 0 else dy x
def glR (e : Nat → Int32) (nm : Nat) (r : Nat → Int32) : Nat → Int32 := fun x => if x = 13 then i_min 999 (r 13 + 2) else if x = 14 then i_min 9999 (r 14 + sumIn (r 10) (fun m => e (4 * m + 1)) nm) else r x
def shR (r : Nat → Int32) : Nat → Int32 := fun x => if 18 ≤ x ∧ x < 195 then r (x + 3) else r x
def pdR (l : Nat) (r : Nat → Int32) : Nat → Int32 := fun x => if x = 11 then 0 else if x = 10 then 0 else if x = 9 then 0 else if x = 8 then 0 else if x = 17 then nI (l + 1) else if x = 18 + 3 * l + 2 then r 9 else if x = 18 + 3 * l + 1 then r 10 else if x = 18 + 3 * l then r 8 else r x
def daR (nc : Nat) (r : Nat → Int32) : Nat → Int32 := fun x => if x = 16 then r 16 + 1 else if 4 ≤ x ∧ x < 4 + nc then 0 else r x
def dayR (e : Nat → Int32) (nc nm : Nat) (r : Nat → Int32) : Nat → Int32 := daR nc (if r 17 = 60 then pdR 59 (shR (glR e nm r)) else pdR (r 17).toNatClampNeg (glR e nm r))
section DA
variable {n : Nat} {xs : Nat → Int32} {N : Nat} {gv : Int32 → Int32 → Int32 → Int32 → Int32} {B M M' M0 Ma M1 Mb M2 W : mmM} {nc nm k p z h h0 h1 o : Nat} {bs rs : Nat → Nat → Int32} {Dk : Nat → Nat} {im : Bool}
theorem I_s {a k j : Nat} {v : Int32} : mm_I (mm_wI M a k v) a j = if j = k then v else mm_I M a j := by rw [I_w, if_pos rfl]
theorem L_fillG {a L : Nat} (ha : 16 ≤ a) (hL : L < 1000) (hs : ∀ M, mm_s (mm_Y n xs) M a = .inr (0, L)) (d : Nat) : ∀ (j i f : Nat) (M : mmM), i + j = L → j < f → ∃ M1, S1 a M M1 ∧ (∀ y, mm_I M1 a y = if i ≤ y ∧ y < L then 0 else mm_I M a y) ∧ lp_J7_fill_53178 n xs N d f 5 [some (.ref a), some (.int 0), some (.int (nI i)), some (.int (nI L))] [] M = some (none, M1) := by
  intro j
  induction j with
  | zero =>
    intro i f M hij hf
    obtain ⟨f, rfl⟩ : ∃ g, f = g + 1 := ⟨f - 1, by omega⟩
    refine ⟨M, S1.rf, fun y => by rw [if_neg (by omega)], ?_⟩
    rw [lu_J7_fill_53178_5, if_pos (nI_le (by omega) (by omega))]
  | succ j ih =>
    intro i f M hij hf
    obtain ⟨f, rfl⟩ : ∃ g, f = g + 1 := ⟨f - 1, by omega⟩
    obtain ⟨M1, s1, a1, e1⟩ := ih (i + 1) f (mm_wI M a i 0) (by omega) (by omega)
    refine ⟨M1, S1.wI.tr s1, fun y => ?_, ?_⟩
    · rw [a1 y, I_w, if_pos rfl]
      by_cases q : y = i
      · rw [if_neg (by omega), if_pos q, if_pos (by omega)]
      · rw [if_neg q]
        by_cases q2 : i + 1 ≤ y ∧ y < L
        · rw [if_pos q2, if_pos (by omega)]
        · rw [if_neg q2, if_neg (by omega)]
    · rw [lu_J7_fill_53178_5, if_neg (nI_ge (show i < L by omega) (by omega)), hs, show mm_arr (.inr (0, L)) 0 = some L from rfl]
      simp only [Option.bind_some, mm_inb_nI (show i < L by omega) (by omega), mm_ble ha, Bool.and_self, cond_true, nI_clamp (show i < 2 ^ 31 by omega), nI_1]
      exact e1
theorem E_fillG {a L : Nat} (ha : 16 ≤ a) (hL : L < 1000) (hs : ∀ M, mm_s (mm_Y n xs) M a = .inr (0, L)) (hN : 1000 ≤ N) (d : Nat) (M : mmM) : ∃ M1, S1 a M M1 ∧ (∀ y, mm_I M1 a y = if y < L then 0 else mm_I M a y) ∧ mm_E n xs N (d + 1) 306 [.ref a, .int 0] M = some (none, M1) := by
  obtain ⟨M1, s1, a1, e1⟩ := L_fillG (n := n) (xs := xs) (N := N) ha hL hs d L 0 N M (by omega) (by omega)
  refine ⟨M1, s1, fun y => ?_, ?_⟩
  · rw [a1 y]
    by_cases q : y < L
    · rw [if_pos ⟨by omega, q⟩, if_pos q]
    · rw [if_neg (fun w => q w.2), if_neg q]
  · rw [u_J7_fill_53178, hs]
    exact e1
theorem xor100 : ∀ D, D < 1000 → 0 ≤ nI D ^^^ 100 := by decide +kernel
theorem E_pl5 (d : Nat) (M : mmM) {D : Nat} (hD : D < 1000) : mm_E n xs N (d + 2) 48 [.int (nI D)] M = some (some (.int (nI (D % 100 * 3))), M) := by
  have e : nI D - nI D / 100 * 100 = nI (D % 100) := pk_rem (d := 100) (by omega) (by omega) (by omega)
  rw [u_X5_placeOf, u_J9_floorMod_7cf53, if_neg (show ¬ (100 : Int32) = 0 by decide), if_pos (xor100 D hD), e, ra_I, Option.bind_some]
  dsimp only
  rw [show (3 : Int32) = nI 3 from rfl, pk_mul]
theorem E_write (d : Nat) (M : mmM) {D : Nat} (hD : D < 1000) (x2 x3 x4 : Int32) : mm_E n xs N (d + 3) 45 [.ref 40, .int (nI D), .int x2, .int x3, .int x4] M = some (none, mm_wI (mm_wI (mm_wI M 41 (D % 100 * 3) x2) 41 (D % 100 * 3 + 1) x3) 41 (D % 100 * 3 + 2) x4) := by
  have e1 : nI (D % 100 * 3) + 1 = nI (D % 100 * 3 + 1) := nI_1 _
  have e2 : nI (D % 100 * 3) + 2 = nI (D % 100 * 3 + 2) := nI_add _ 2
  rw [u_X5_write_40, E_pl5 d M hD, ra_I, Option.bind_some]
  dsimp only
  rw [if_neg (nI_pos (by omega)), e1, e2, if_neg (show ¬ Int32.ofNat 300 ≤ nI (D % 100 * 3 + 2) from nI_ge (b := 300) (by omega) (by omega))]
  simp only [mm_inb_nI (show D % 100 * 3 < 300 by omega) (by omega), mm_inb_nI (show D % 100 * 3 + 1 < 300 by omega) (by omega), mm_inb_nI (show D % 100 * 3 + 2 < 300 by omega) (by omega), mm_ble (show 16 ≤ 41 by omega), Bool.and_self, cond_true, nI_clamp (show D % 100 * 3 < 2 ^ 31 by omega), nI_clamp (show D % 100 * 3 + 1 < 2 ^ 31 by omega), nI_clamp (show D % 100 * 3 + 2 < 2 ^ 31 by omega)]
theorem E_mornX (hN : 1000 ≤ N) (d : Nat) (M : mmM) : ∃ M1, mm_E n xs N (d + 2) 2 [.ref 35] M = some (none, M1) ∧ M1.1 = M.1 ∧ M1.2.1 = M.2.1 ∧ M1.2.2.1 = M.2.2.1 ∧ M1.2.2.2.2.1 = M.2.2.2.2.1 ∧ M1.2.2.2.2.2 = M.2.2.2.2.2 ∧ (∀ a, a ≠ 35 → a ≠ 36 → mm_I M1 a = mm_I M a) ∧ (∀ x, mm_I M1 35 x = if x = 3 then 0 else if x = 2 then 0 else if x = 1 then 0 else if x = 0 then 0 else mm_I M 35 x) ∧ ∀ y, mm_I M1 36 y = if y < 4 then 0 else mm_I M 36 y := by
  obtain ⟨M1, s1, a1, e1⟩ := E_fillG (n := n) (xs := xs) (N := N) (a := 36) (L := 4) (by omega) (by omega) (fun _ => rfl) hN d (mm_wI (mm_wI (mm_wI (mm_wI M 35 0 0) 35 1 0) 35 2 0) 35 3 0)
  refine ⟨M1, ?_, s1.1, s1.2.1, s1.2.2.1, s1.2.2.2.1, s1.2.2.2.2.1, fun a b1 b2 => ?_, fun x => ?_, fun y => ?_⟩
  · rw [u_X0_beginMorning_35, e1, ra_V, Option.bind_some]
  · rw [s1.I b2, I_wn b1, I_wn b1, I_wn b1, I_wn b1]
  · rw [s1.I (by decide)]
    simp only [I_w, if_true]
  · rw [a1 y, I_wn (by decide), I_wn (by decide), I_wn (by decide), I_wn (by decide)]
theorem E_dayX (hR : RT M nc nm) (hN : 1000 ≤ N) (d : Nat) {D : Nat} (hD : D < 1000) (h8 : mm_I M 35 8 = nI D) : ∃ M1, mm_E n xs N (d + 5) 124 [.ref 16] M = some (none, M1) ∧ BX M M1 ∧ nowX M1 = dayB (mm_I M 33) nm (nowX M) ∧ mm_I M1 41 = dayY D (nowX M) (mm_I M 41) ∧ M1.2.2.2.2.1 = M.2.2.2.2.1 := by
  have q1 : ∀ v, mm_I (mm_wI M 35 6 v) 35 5 = mm_I M 35 5 := fun v => by rw [I_w, if_pos rfl, if_neg (by decide)]
  have q8 : ∀ v, mm_I (mm_wI M 35 6 v) 35 8 = nI D := fun v => by rw [I_w, if_pos rfl, if_neg (by decide), h8]
  have q0 : ∀ v, mm_I (mm_wI M 35 6 v) 35 0 = mm_I M 35 0 := fun v => by rw [I_w, if_pos rfl, if_neg (by decide)]
  have q2 : ∀ v, mm_I (mm_wI M 35 6 v) 35 2 = mm_I M 35 2 := fun v => by rw [I_w, if_pos rfl, if_neg (by decide)]
  have q3 : ∀ v, mm_I (mm_wI M 35 6 v) 35 1 = mm_I M 35 1 := fun v => by rw [I_w, if_pos rfl, if_neg (by decide)]
  obtain ⟨M1, e1, c1, c2, c3, c4, c5, c6, c7, c8⟩ := E_mornX (n := n) (xs := xs) (N := N) hN (d + 2) (mm_wI (mm_wI (mm_wI (mm_wI (mm_wI (mm_wI M 35 6 (i_min 9999 (mm_I M 35 6 + wth M nm))) 35 5 (i_min 999 (mm_I M 35 5 + 2))) 41 (D % 100 * 3) (mm_I M 35 0)) 41 (D % 100 * 3 + 1) (mm_I M 35 2)) 41 (D % 100 * 3 + 2) (mm_I M 35 1)) 35 8 (nI D + 1))
  refine ⟨M1, ?_, ⟨c1, c2, c3, c5, fun a a1 a2 a3 a4 a5 a6 => ?_, fun q hq => ?_⟩, ?_, ?_, c4⟩
  · rw [u_X11_passDay]
    (rw [E_worthX d hR (by omega), ra_I]; simp only [Option.bind_some])
    (rw [E_min (d + 3) M _ _, ra_I]; simp only [Option.bind_some])
    (rw [E_min (d + 3) _ _ _, ra_I]; simp only [Option.bind_some])
    rw [q8, q0, q2, q3]
    rw [E_write (d + 1) _ hD, ra_V, Option.bind_some]
    have q9 : ∀ a b v1 v2 v3, mm_I (mm_wI (mm_wI (mm_wI (mm_wI (mm_wI M 35 6 a) 35 5 b) 41 (D % 100 * 3) v1) 41 (D % 100 * 3 + 1) v2) 41 (D % 100 * 3 + 2) v3) 35 8 = nI D := fun a b v1 v2 v3 => by
      rw [I_wn (by decide), I_wn (by decide), I_wn (by decide), I_w, if_pos rfl, if_neg (by decide), q8]
    rw [q9, e1, ra_V, Option.bind_some]
  · rw [c6 a a3 a4, I_wn a3, I_wn a6, I_wn a6, I_wn a6, I_wn a3, I_wn a3]
  · rw [c6 25 (by decide) (by decide), I_wn (by decide), I_wn (by decide), I_wn (by decide), I_wn (by decide), I_wn (by decide), I_wn (by decide)]
  · funext j
    unfold dayB
    rw [nX (j := 8) (by omega), nX (j := 5) (by omega), nX (j := 6) (by omega), nX (j := 2) (by omega), h8]
    by_cases hj : j ≤ 8
    · rw [nX hj, nX hj, c7 j, if_neg (show ¬ (9 ≤ j ∧ j < 13) by omega), I_w, if_pos rfl, I_wn (by decide), I_wn (by decide), I_wn (by decide), I_w, if_pos rfl, I_w, if_pos rfl]
      rfl
    · rw [if_neg (by omega), if_neg (by omega), if_neg (by omega), if_neg (by omega), if_neg (by omega), if_neg (by omega), if_neg (by omega)]
      unfold nowX bow
      rw [if_neg hj, if_neg hj]
      by_cases hj2 : j < 13
      · rw [if_pos hj2, if_pos hj2, c8, if_pos (by omega), if_pos (by omega)]
      · rw [if_neg hj2, if_neg hj2, if_neg (by omega), c6 37 (by decide) (by decide), I_wn (by decide), I_wn (by decide), I_wn (by decide), I_wn (by decide), I_wn (by decide), I_wn (by decide)]
  · funext x
    unfold dayY
    rw [c6 41 (by decide) (by decide), I_wn (by decide), I_w, if_pos rfl, I_w, if_pos rfl, I_w, if_pos rfl, I_wn (by decide), I_wn (by decide), nX (j := 1) (by omega), nX (j := 2) (by omega), nX (j := 0) (by omega)]
/-- the model's -/
theorem L_pd206 (d : Nat) (h4 : nc ≤ 4) : ∀ (j i f : Nat) (W : mmM), i + j = nc → j < f → mm_I W 60 25 = nI nc → ∃ M1, lp_X12_passDay n xs N d f 206 [some (.ref 60), none, some (.int (nI i))] [] W = some (none, M1) ∧ S1 77 W M1 ∧ ∀ x, mm_I M1 77 x = if x = 16 then mm_I W 77 16 + 1 else if 4 + i ≤ x ∧ x < 4 + nc then 0 else mm_I W 77 x := by
  intro j
  induction j with
  | zero =>
    intro i f W hij hf h25
    obtain ⟨f, rfl⟩ : ∃ g, f = g + 1 := ⟨f - 1, by omega⟩
    refine ⟨mm_wI W 77 16 (mm_I W 77 16 + 1), ?_, S1.wI, fun x => ?_⟩
    · rw [lu_X12_passDay_206, h25, if_pos (nI_le (by omega) (by omega))]
    · rw [I_w, if_pos rfl]
      by_cases q : x = 16
      · rw [if_pos q, if_pos q]
      · rw [if_neg q, if_neg q, if_neg (by omega)]
  | succ j ih =>
    intro i f W hij hf h25
    obtain ⟨f, rfl⟩ : ∃ g, f = g + 1 := ⟨f - 1, by omega⟩
    have e4 : (4 : Int32) + nI i = nI (4 + i) := nI_add 4 i
    obtain ⟨M1, e1, s1, a1⟩ := ih (i + 1) f (mm_wI W 77 (4 + i) 0) (by omega) (by omega) (by rw [I_wn (by decide)]; exact h25)
    refine ⟨M1, ?_, S1.wI.tr s1, fun x => ?_⟩
    · rw [lu_X12_passDay_206, h25, if_neg (nI_ge (show i < nc by omega) (by omega)), e4, nI_1]
      simp only [mm_inb_nI (show 4 + i < 198 by omega) (by omega), mm_ble (show 16 ≤ 77 by omega), Bool.and_self, cond_true, nI_clamp (show 4 + i < 2 ^ 31 by omega)]
      exact e1
    · rw [a1 x, I_w, if_pos rfl, if_neg (show ¬ 16 = 4 + i by omega), I_w, if_pos rfl]
      by_cases q : x = 16
      · rw [if_pos q, if_pos q]
      · rw [if_neg q, if_neg q]
        by_cases q2 : x = 4 + i
        · rw [if_neg (by omega), if_pos q2, if_pos (by omega)]
        · rw [if_neg q2]
          by_cases q3 : 4 + (i + 1) ≤ x ∧ x < 4 + nc
          · rw [if_pos q3, if_pos (by omega)]
          · rw [if_neg q3, if_neg (by omega)]
theorem L_pd61 (d f : Nat) : ∀ (j y : Nat) (M : mmM), y + j = 180 → 3 ≤ y → ∃ M1, S1 77 M M1 ∧ (∀ x, mm_I M1 77 x = if 15 + y ≤ x ∧ x < 195 then mm_I M 77 (x + 3) else mm_I M 77 x) ∧ lp_X12_passDay n xs N d (f + j) 61 [some (.ref 60), some (.int (nI y)), none] [] M = lp_X12_passDay n xs N d f 61 [some (.ref 60), some (.int (nI 180)), none] [] M1 := by
  intro j
  induction j with
  | zero =>
    intro y M hyj hy
    refine ⟨M, S1.rf, fun x => by rw [if_neg (by omega)], ?_⟩
    rw [Nat.add_zero, show y = 180 by omega]
  | succ j ih =>
    intro y M hyj hy
    have e1 : (18 : Int32) + nI y = nI (18 + y) := nI_add 18 y
    have e2 : nI (18 + y) - 3 = nI (15 + y) := by
      rw [show (3 : Int32) = nI 3 from rfl, pk_sub (by omega), show 18 + y - 3 = 15 + y by omega]
    obtain ⟨M1, s1, a1, e3⟩ := ih (y + 1) (mm_wI M 77 (15 + y) (mm_I M 77 (18 + y))) (by omega) (by omega)
    refine ⟨M1, S1.wI.tr s1, fun x => ?_, ?_⟩
    · rw [a1 x, I_w, if_pos rfl, I_w, if_pos rfl]
      by_cases q : x = 15 + y
      · rw [if_neg (by omega), if_pos q, if_pos (by omega), q, show 15 + y + 3 = 18 + y by omega]
      · rw [if_neg q]
        by_cases q2 : 15 + (y + 1) ≤ x ∧ x < 195
        · rw [if_pos q2, if_neg (show ¬ x + 3 = 15 + y by omega), if_pos (show 15 + y ≤ x ∧ x < 195 by omega)]
        · rw [if_neg q2, if_neg (by omega)]
    · rw [← Nat.add_assoc f j 1, lu_X12_passDay_61, if_neg (show ¬ (180 : Int32) ≤ nI y from nI_ge (b := 180) (by omega) (by omega)), e1, e2, nI_1]
      simp only [mm_inb_nI (show 18 + y < 198 by omega) (by omega), mm_inb_nI (show 15 + y < 198 by omega) (by omega), mm_ble (show 16 ≤ 77 by omega), Bool.and_self, cond_true, nI_clamp (show 18 + y < 2 ^ 31 by omega), nI_clamp (show 15 + y < 2 ^ 31 by omega)]
      exact e3
/-- from the last of the loops on -/
theorem pd_fin (d f : Nat) (h4 : nc ≤ 4) (hf : nc < f) (h25 : mm_I M 60 25 = nI nc) (hs : S1 77 M W) {r : Nat → Int32} (hr : ∀ x, mm_I W 77 x = r x) : ∃ M1, lp_X12_passDay n xs N d f 206 [some (.ref 60), none, some (.int 0)] [] W = some (none, M1) ∧ S1 77 M M1 ∧ mm_I M1 77 = daR nc r := by
  obtain ⟨M1, e1, s1, a1⟩ := L_pd206 (n := n) (xs := xs) (N := N) d h4 nc 0 f W (by omega) hf (by rw [hs.I (by decide)]; exact h25)
  refine ⟨M1, e1, hs.tr s1, ?_⟩
  funext x
  rw [a1 x, hr 16, hr x]
  unfold daR
  rw [Nat.add_zero]
theorem E_dayM (hR : RT M nc nm) (hN : 1000 ≤ N) (d : Nat) {l : Nat} (hl : l ≤ 60) (h17 : mm_I M 77 17 = nI l) : ∃ M1, mm_E n xs N (d + 3) 251 [.ref 60] M = some (none, M1) ∧ S1 77 M M1 ∧ mm_I M1 77 = dayR (mm_I M 76) nc nm (mm_I M 77) := by
  have hnc := hR.1
  have hnm := hR.2.1
  have h25 := hR.2.2.2.2.2.2.1
  have ew : mm_E n xs N (d + 2) 230 [.ref 60] M = some (some (.int (sumIn (mm_I M 77 10) (fun m => mm_I M 76 (4 * m + 1)) nm)), M) := by
    rw [u_X12_worthIn]
    exact L_worthIn (n := n) (xs := xs) (N := N) d hR nm 0 N 0 (by omega) (by omega)
  have g13 : ∀ v, mm_I (mm_wI M 77 14 v) 77 13 = mm_I M 77 13 := fun v => by rw [I_w, if_pos rfl, if_neg (by decide)]
  have g17 : ∀ v, mm_I (mm_wI M 77 14 v) 77 17 = nI l := fun v => by rw [I_w, if_pos rfl, if_neg (by decide), h17]
  have hgl : ∀ x, mm_I (mm_wI (mm_wI M 77 14 (i_min 9999 (mm_I M 77 14 + sumIn (mm_I M 77 10) (fun m => mm_I M 76 (4 * m + 1)) nm))) 77 13 (i_min 999 (mm_I M 77 13 + 2))) 77 x = glR (mm_I M 76) nm (mm_I M 77) x := fun x => by
    rw [I_w, if_pos rfl, I_w, if_pos rfl]
    rfl
  rw [u_X12_passDay]
  (rw [ew, ra_I]; simp only [Option.bind_some])
  (rw [E_min (d + 1) M _ _, ra_I]; simp only [Option.bind_some])
  (rw [E_min (d + 1) _ _ _, ra_I]; simp only [Option.bind_some])
  rw [g17]
  by_cases q : l = 60
  · subst q
    rw [if_pos (show nI 60 = (60 : Int32) from rfl)]
    obtain ⟨f, hf⟩ : ∃ f, N = f + 1 + 177 := ⟨N - 178, by omega⟩
    obtain ⟨M1, s1, a1, e1⟩ := L_pd61 (n := n) (xs := xs) (N := N) (d + 2) (f + 1) 177 3 (mm_wI (mm_wI M 77 14 (i_min 9999 (mm_I M 77 14 + sumIn (mm_I M 77 10) (fun m => mm_I M 76 (4 * m + 1)) nm))) 77 13 (i_min 999 (mm_I M 77 13 + 2))) (by omega) (by omega)
    rw [← hf, show nI 3 = (3 : Int32) from rfl] at e1
    have hsh : ∀ x, mm_I M1 77 x = shR (glR (mm_I M 76) nm (mm_I M 77)) x := fun x => by
      rw [a1 x, hgl, hgl]
      rfl
    have m17 : mm_I M1 77 17 = nI 60 := by
      rw [hsh]
      exact h17
    rw [e1, lu_X12_passDay_61, if_pos (show (180 : Int32) ≤ nI 180 from nI_le (a := 180) (by omega) (by omega)), m17]
    simp only [show nI 60 - 1 = nI 59 from nI_pred 59, show (18 : Int32) + 3 * nI 59 = nI 195 by decide, show nI 195 + 1 = nI 196 from nI_1 195, show nI 195 + 2 = nI 197 by decide, mm_inb_nI (show 195 < 198 by omega) (by omega), mm_inb_nI (show 196 < 198 by omega) (by omega), mm_inb_nI (show 197 < 198 by omega) (by omega), mm_ble (show 16 ≤ 77 by omega), Bool.and_self, cond_true, nI_clamp (show 195 < 2 ^ 31 by omega), nI_clamp (show 196 < 2 ^ 31 by omega), nI_clamp (show 197 < 2 ^ 31 by omega)]
    have hfin := fun W hs hr => pd_fin (n := n) (xs := xs) (N := N) (M := M) (W := W) (d + 2) f hnc (by omega) h25 hs (r := pdR 59 (shR (glR (mm_I M 76) nm (mm_I M 77)))) hr
    have eR : dayR (mm_I M 76) nc nm (mm_I M 77) = daR nc (pdR 59 (shR (glR (mm_I M 76) nm (mm_I M 77)))) := by
      unfold dayR
      rw [if_pos (show mm_I M 77 17 = 60 from h17)]
    rw [eR]
    refine hfin _ ?_ (fun x => ?_)
    · exact (((((((((((S1.wI.tr S1.wI).tr s1).tr S1.wI).tr S1.wI).tr S1.wI).tr S1.wI).tr S1.wI).tr S1.wI).tr S1.wI).tr S1.wI).tr S1.wI)
    · simp only [I_s, show ¬ 10 = 195 by decide, show ¬ 10 = 17 by decide, show ¬ 9 = 196 by decide, show ¬ 9 = 195 by decide, show ¬ 9 = 17 by decide, show ¬ 17 = 197 by decide, show ¬ 17 = 196 by decide, show ¬ 17 = 195 by decide, if_false, nI_1, hsh]
      unfold pdR
      rw [show 18 + 3 * 59 + 2 = 197 from rfl, show 18 + 3 * 59 + 1 = 196 from rfl, show 18 + 3 * 59 = 195 from rfl]
      by_cases x17 : x = 17
      · simp only [if_pos x17, if_true, nI_1]
      · simp only [if_neg x17]
  · have hlt : l < 60 := by omega
    rw [if_neg (show ¬ nI l = (60 : Int32) from fun w => q ((nI_eq (by omega) (by omega)).mp (w : nI l = nI 60)))]
    have i0 : (18 : Int32) + 3 * nI l = nI (18 + 3 * l) := by rw [show (18 : Int32) = nI 18 from rfl, show (3 : Int32) = nI 3 from rfl, pk_mul, nI_add]
    have i2 : nI (18 + 3 * l) + 2 = nI (18 + 3 * l + 2) := nI_add _ 2
    simp only [i0, nI_1, i2, mm_inb_nI (show 18 + 3 * l < 198 by omega) (by omega), mm_inb_nI (show 18 + 3 * l + 1 < 198 by omega) (by omega), mm_inb_nI (show 18 + 3 * l + 2 < 198 by omega) (by omega), mm_ble (show 16 ≤ 77 by omega), Bool.and_self, cond_true, nI_clamp (show 18 + 3 * l < 2 ^ 31 by omega), nI_clamp (show 18 + 3 * l + 1 < 2 ^ 31 by omega), nI_clamp (show 18 + 3 * l + 2 < 2 ^ 31 by omega)]
    have hfin := fun W hs hr => pd_fin (n := n) (xs := xs) (N := N) (M := M) (W := W) (d + 2) N hnc (by omega) h25 hs (r := pdR l (glR (mm_I M 76) nm (mm_I M 77))) hr
    have eR : dayR (mm_I M 76) nc nm (mm_I M 77) = daR nc (pdR l (glR (mm_I M 76) nm (mm_I M 77))) := by
      unfold dayR
      rw [h17, if_neg (show ¬ nI l = (60 : Int32) from fun w => q ((nI_eq (by omega) (by omega)).mp (w : nI l = nI 60))), nI_clamp (by omega)]
    rw [eR]
    refine hfin _ ?_ (fun x => ?_)
    · exact (((((((((S1.wI.tr S1.wI).tr S1.wI).tr S1.wI).tr S1.wI).tr S1.wI).tr S1.wI).tr S1.wI).tr S1.wI).tr S1.wI)
    · have g8 : ∀ v w, mm_I (mm_wI (mm_wI M 77 14 v) 77 13 w) 77 17 = nI l := fun v w => by rw [I_w, if_pos rfl, if_neg (by decide), g17]
      simp only [I_s, show ¬ 10 = 18 + 3 * l by omega, show ¬ 9 = 18 + 3 * l + 1 by omega, show ¬ 9 = 18 + 3 * l by omega, show ¬ 17 = 18 + 3 * l + 2 by omega, show ¬ 17 = 18 + 3 * l + 1 by omega, show ¬ 17 = 18 + 3 * l by omega, show ¬ 17 = 13 by decide, show ¬ 17 = 14 by decide, show ¬ 10 = 13 by decide, show ¬ 10 = 14 by decide, show ¬ 9 = 13 by decide, show ¬ 9 = 14 by decide, show ¬ 8 = 14 by decide, show ¬ 8 = 13 by decide, if_false, h17, nI_1]
      unfold pdR glR
      rfl
end DA
