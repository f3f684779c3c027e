/-! how long it lasts, how stiff it must be -/
def ls (B : Nat) : Nat → Nat → Nat → Int32
  | 0, i, s => if s = 0 then nI i else -1
  | j + 1, i, s => if s = 0 then nI i else ls B j (i + 1) (s - B)
theorem ls_0 (B i s : Nat) : ls B 0 i s = if s = 0 then nI i else -1 := rfl
theorem ls_s (B j i s : Nat) : ls B (j + 1) i s = if s = 0 then nI i else ls B j (i + 1) (s - B) := rfl
theorem nI_eq0 {a : Nat} (ha : a < 2 ^ 31) : (nI a = 0) = (a = 0) := by
  rw [← nI_0]
  exact propext (nI_eq ha (by omega))
section LT
variable {n : Nat} {xs : Nat → Int32} {N : Nat} {gv : Int32 → Int32 → Int32 → Int32 → Int32} {M M' : mmM} {nc nm : Nat}
theorem lx_out (d f : Nat) (b s : Int32) {i : Nat} (M : mmM) (h : 60 < i) (hi : i < 2 ^ 31) : lp_X11_lasts n xs N d (f + 1) 24 [none, some (.int b), some (.int s), some (.int (nI i))] [] M = some (some (.int (-1)), M) := by
  rw [lu_X11_lasts_24, if_pos (show (60 : Int32) < nI i from nI_lt (a := 60) h hi)]
theorem lx_in (d f : Nat) {B s i : Nat} (M : mmM) (h : i ≤ 60) (hs : s ≤ 99) (hB : B ≤ 19) : lp_X11_lasts n xs N (d + 2) (f + 1) 24 [none, some (.int (nI B)), some (.int (nI s)), some (.int (nI i))] [] M = if s = 0 then some (some (.int (nI i)), M) else lp_X11_lasts n xs N (d + 2) f 24 [none, some (.int (nI B)), some (.int (nI (s - B))), some (.int (nI (i + 1)))] [] M := by
  rw [lu_X11_lasts_24, if_neg (show ¬ (60 : Int32) < nI i from nI_nlt (b := i) (a := 60) h (by omega))]
  simp only [nI_eq0 (show s < 2 ^ 31 by omega)]
  by_cases h0 : s = 0
  · rw [if_pos h0, if_pos h0]
  · rw [if_neg h0, if_neg h0]
    (rw [E_sunk d M _ _, ra_I]; simp only [Option.bind_some])
    rw [i_max0 (by omega) (by omega), nI_1]
theorem L_lastsX (d B : Nat) (hB : B ≤ 19) (M : mmM) : ∀ (j i f s : Nat), i + j = 60 → j + 1 < f → s ≤ 99 → lp_X11_lasts n xs N (d + 2) f 24 [none, some (.int (nI B)), some (.int (nI s)), some (.int (nI i))] [] M = some (some (.int (ls B j i s)), M) := by
  intro j
  induction j with
  | zero =>
    intro i f s hij hf hs
    obtain ⟨f, rfl⟩ : ∃ g, f = g + 1 := ⟨f - 1, by omega⟩
    obtain ⟨f, rfl⟩ : ∃ g, f = g + 1 := ⟨f - 1, by omega⟩
    rw [lx_in d (f + 1) M (by omega) hs hB, lx_out _ _ _ _ M (by omega) (by omega)]
    unfold ls
    by_cases h0 : s = 0
    · rw [if_pos h0, if_pos h0]
    · rw [if_neg h0, if_neg h0]
  | succ j ih =>
    intro i f s hij hf hs
    obtain ⟨f, rfl⟩ : ∃ g, f = g + 1 := ⟨f - 1, by omega⟩
    rw [lx_in d f M (by omega) hs hB, ih (i + 1) f (s - B) (by omega) (by omega) (by omega), ls_s]
    by_cases h0 : s = 0
    · rw [if_pos h0, if_pos h0]
    · rw [if_neg h0, if_neg h0]
/-- what a loop over the model's row leaves, behind which all is taken back -/
def TB (r0 : Nat → Int32) (M M3 : mmM) : Prop := ∃ M2, S1 77 M M2 ∧ (∀ k, 17 ≤ k → mm_I M2 77 k = r0 k) ∧ S1 77 M2 M3 ∧ mm_I M3 77 = fun k => if k < 17 then mm_I M2 80 (17 * 0 + k) else mm_I M2 77 k
theorem TB.pre {r0 : Nat → Int32} {M0 M M3 : mmM} (s : S1 77 M0 M) (h : TB r0 M M3) : TB r0 M0 M3 := by
  obtain ⟨M2, a1, a2, a3, a4⟩ := h
  exact ⟨M2, s.tr a1, a2, a3, a4⟩
theorem TB.sm {M M1 M3 : mmM} (s1 : S1 80 M M1) (a1 : ∀ k, k < 17 → mm_I M1 80 (17 * 0 + k) = mm_I M 77 k) (h : TB (mm_I M 77) M1 M3) : SM M M3 := by
  obtain ⟨M2, b1, b2, b3, b4⟩ := h
  exact back_SM s1 a1 b1.sn b2 b3 b4
theorem E_tb (hN : 100 ≤ N) (d : Nat) {r0 : Nat → Int32} (M : mmM) (h : ∀ k, 17 ≤ k → mm_I M 77 k = r0 k) : ∃ M3, mm_E n xs N (d + 1) 262 [.ref 60, .int 0] M = some (none, M3) ∧ TB r0 M M3 := by
  obtain ⟨M3, e3, s3, a3⟩ := E_takeBack (n := n) (xs := xs) (N := N) hN d 0 (by omega) M
  exact ⟨M3, e3, M, S1.rf, h, s3, a3⟩
theorem L_lastsM (hN : 100 ≤ N) (d B : Nat) (hB : B ≤ 19) {r0 : Nat → Int32} : ∀ (j i f s : Nat) (M : mmM), RT M nc nm → snR M nm r0 = nI B → TK r0 (mm_I M 77) s → i + j = 60 → j < f → ∃ M3, lp_X12_lasts n xs N (d + 4) f 16 [some (.ref 60), some (.int (nI i)), none] [] M = some (some (.int (ls B j i s)), M3) ∧ TB r0 M M3 := by
  intro j
  induction j with
  | zero =>
    intro i f s M hR hs ht hij hf
    obtain ⟨f, rfl⟩ : ∃ g, f = g + 1 := ⟨f - 1, by omega⟩
    rw [lu_X12_lasts_16, show (60 : Int32) = nI 60 from rfl, if_pos (nI_le (by omega) (by omega)), ht.1]
    obtain ⟨M3, e3, t3⟩ := E_tb (n := n) (xs := xs) hN (d + 3) M ht.2.2.2.2
    simp only [nI_eq0 (show s < 2 ^ 31 by have := ht.2.1; omega), e3, ra_V, Option.bind_some, c10, c00, if_false, if_true]
    refine ⟨M3, ?_, t3⟩
    rw [ls_0]
    by_cases h0 : s = 0
    · rw [if_pos h0, if_pos h0]
    · rw [if_neg h0, if_neg h0]
  | succ j ih =>
    intro i f s M hR hs ht hij hf
    obtain ⟨f, rfl⟩ : ∃ g, f = g + 1 := ⟨f - 1, by omega⟩
    have h99 := ht.2.1
    rw [lu_X12_lasts_16, show (60 : Int32) = nI 60 from rfl, if_neg (show ¬ nI 60 ≤ nI i from fun q => by have := (nI_leI (by omega) (by omega)).mp q; omega), ht.1, ls_s]
    simp only [nI_eq0 (show s < 2 ^ 31 by omega), nI_le0 (show s < 2 ^ 31 by omega)]
    by_cases h0 : s = 0
    · obtain ⟨M3, e3, t3⟩ := E_tb (n := n) (xs := xs) hN (d + 3) M ht.2.2.2.2
      simp only [h0, if_true, e3, ra_V, Option.bind_some, c10, if_false]
      exact ⟨M3, rfl, t3⟩
    · simp only [h0, if_false]
      obtain ⟨M1, e1, s1, r1⟩ := E_hourM (n := n) (xs := xs) hR hN d
      (rw [e1, ra_V]; simp only [Option.bind_some])
      have ht1 := TK_hour hB ht hs
      rw [← r1] at ht1
      obtain ⟨M3, e3, t3⟩ := ih (i + 1) f (s - B) M1 (hR.s1 s1 (by omega)) (by rw [snR_S1 s1 (by omega) (by omega)]; exact hs) ht1 (by omega) (by omega)
      rw [nI_1]
      exact ⟨M3, e3, t3.pre s1⟩
theorem CT.tk (h : CT n xs N gv M nc nm) : ∃ s, mm_I M 35 0 = nI s ∧ s ≤ 99 ∧ TK (mm_I M 77) (mm_I M 77) s := by
  obtain ⟨s, hs, es⟩ := bd_nI (h := 99) h.st
  exact ⟨s, es, hs, h.b8.trans es, hs, rfl, fun _ => rfl, fun _ _ => rfl⟩
theorem Q_lasts (h : CT n xs N gv M nc nm) (d : Nat) : QQ n xs N (d + 60) M 150 [.ref 16] 273 [.ref 60] := by
  have hN := h.nN
  unfold QQ
  rw [u_X11_lasts]
  simp only [u_X12_lasts]
  by_cases h0 : nm = 0
  · refine ⟨-1, M, M, ?_, FR.rf, ?_, FR.rf⟩
    · rw [if_pos (h.X0 h0).1]
    · rw [if_pos (h.X0 h0).2]
  · rw [if_neg (h.X1 h0).1]
    obtain ⟨B, hB, eB⟩ := h.skN
    obtain ⟨s, es, hs, ht⟩ := h.tk
    (rw [E_sinksX h (d + 54), ra_I]; simp only [Option.bind_some])
    rw [eB, es]
    obtain ⟨M1, e1, s1, a1, -⟩ := E_putAside (n := n) (xs := xs) (N := N) (by omega) (d + 58) 0 (by omega) M
    have r1 : mm_I M1 77 = mm_I M 77 := s1.I (by decide)
    obtain ⟨M3, e3, t3⟩ := L_lastsM (n := n) (xs := xs) (N := N) (by omega) (d + 55) B hB (r0 := mm_I M 77) 60 0 N s M1 (h.1.s1 s1 (by omega)) (by rw [snR_S1 s1 (by omega) (by omega), h.snk, eB]) (by rw [r1]; exact ht) (by omega) (by omega)
    have a := L_lastsX (n := n) (xs := xs) (N := N) (d + 57) B hB M 60 0 N s (by omega) (by omega) hs
    refine ⟨_, M, M3, a, FR.rf, ?_, (t3.sm s1 a1).fr⟩
    rw [if_neg (h.X1 h0).2]
    (rw [(show mm_E n xs N (d + 59) 261 [.ref 60, .int 0] M = _ from e1), ra_V]; simp only [Option.bind_some])
    exact e3
/-! holds -/
theorem L_isUp (hN : 100 ≤ N) (d B : Nat) (hB : B ≤ 19) {r0 : Nat → Int32} (t : Nat) (ht20 : t ≤ 20) : ∀ (j i f s : Nat) (M : mmM), RT M nc nm → snR M nm r0 = nI B → TK r0 (mm_I M 77) s → i + j = t → j < f → ∃ M3, lp_X12_isUp n xs N (d + 4) f 15 [some (.ref 60), none, some (.int (nI t)), some (.int (nI i))] [] M = some (some (.int (mb (decide (j * B < s)))), M3) ∧ TB r0 M M3 := by
  intro j
  induction j with
  | zero =>
    intro i f s M hR hs ht hij hf
    obtain ⟨f, rfl⟩ : ∃ g, f = g + 1 := ⟨f - 1, by omega⟩
    have h99 := ht.2.1
    rw [lu_X12_isUp_15, if_pos (nI_le (by omega) (by omega)), ht.1]
    obtain ⟨M3, e3, t3⟩ := E_tb (n := n) (xs := xs) hN (d + 3) M ht.2.2.2.2
    simp only [nI_le0 (show s < 2 ^ 31 by omega), e3, ra_V, Option.bind_some]
    refine ⟨M3, ?_, t3⟩
    rw [Nat.zero_mul]
    by_cases h0 : s = 0
    · rw [if_pos h0, decide_eq_false (by omega)]; rfl
    · rw [if_neg h0, decide_eq_true (by omega)]; rfl
  | succ j ih =>
    intro i f s M hR hs ht hij hf
    obtain ⟨f, rfl⟩ : ∃ g, f = g + 1 := ⟨f - 1, by omega⟩
    rw [lu_X12_isUp_15, if_neg (nI_ge (show i < t by omega) (by omega))]
    obtain ⟨M1, e1, s1, r1⟩ := E_hourM (n := n) (xs := xs) hR hN d
    (rw [e1, ra_V]; simp only [Option.bind_some])
    have ht1 := TK_hour hB ht hs
    rw [← r1] at ht1
    obtain ⟨M3, e3, t3⟩ := ih (i + 1) f (s - B) M1 (hR.s1 s1 (by omega)) (by rw [snR_S1 s1 (by omega) (by omega)]; exact hs) ht1 (by omega) (by omega)
    rw [nI_1]
    refine ⟨M3, ?_, t3.pre s1⟩
    rw [e3, Nat.succ_mul]
    have e : decide (j * B < s - B) = decide (j * B + B < s) := decide_eq_decide.mpr (by omega)
    rw [e]
theorem E_isUp (h : CT n xs N gv M nc nm) (d : Nat) {B t v : Nat} (hB : B ≤ 19) (eB : skI M nm = nI B) (ht : t ≤ 20) (hv : v ≤ 99) : ∃ M3, mm_E n xs N (d + 5) 274 [.ref 60, .int (nI v), .int (nI t)] M = some (some (.int (mb (decide (t * B < v)))), M3) ∧ SM M M3 := by
  have hN := h.nN
  rw [u_X12_isUp]
  obtain ⟨M1, e1, s1, a1, -⟩ := E_putAside (n := n) (xs := xs) (N := N) (by omega) (d + 3) 0 (by omega) M
  (rw [(show mm_E n xs N (d + 4) 261 [.ref 60, .int 0] M = _ from e1), ra_V]; simp only [Option.bind_some])
  have r1 : mm_I M1 77 = mm_I M 77 := s1.I (by decide)
  have w : S1 77 M1 (mm_wI M1 77 8 (nI v)) := S1.wI
  have hR1 := (h.1.s1 s1 (by omega)).s1 w (by omega)
  obtain ⟨M3, e3, t3⟩ := L_isUp (n := n) (xs := xs) (N := N) (by omega) d B hB (r0 := mm_I M 77) t ht t 0 N v (mm_wI M1 77 8 (nI v)) hR1 (by rw [snR_S1 w (by omega) (by omega), snR_S1 s1 (by omega) (by omega), h.snk, eB]) (by
    rw [w8, r1]
    refine ⟨rfl, hv, rfl, fun _ => rfl, fun k hk => ?_⟩
    unfold up8
    rw [if_neg (by omega)]) (by omega) (by omega)
  exact ⟨M3, e3, (t3.pre w).sm s1 a1⟩
theorem L_holdsM (d : Nat) {B t : Nat} (hB : B ≤ 19) (ht : t ≤ 20) : ∀ (j i f : Nat) (M : mmM), CT n xs N gv M nc nm → skI M nm = nI B → i + j = 100 → j < f → ∃ M3, lp_X12_holds n xs N (d + 5) f 21 [some (.ref 60), some (.int (nI t)), some (.int (nI i))] [] M = some (some (.int (fst1 (fun v => decide (t * B < v)) i j)), M3) ∧ SM M M3 := by
  intro j
  induction j with
  | zero =>
    intro i f M h eB hij hf
    obtain ⟨f, rfl⟩ : ∃ g, f = g + 1 := ⟨f - 1, by omega⟩
    rw [lu_X12_holds_21, show (99 : Int32) = nI 99 from rfl, if_pos (nI_lt (by omega) (by omega))]
    exact ⟨M, rfl, SM.rf⟩
  | succ j ih =>
    intro i f M h eB hij hf
    obtain ⟨f, rfl⟩ : ∃ g, f = g + 1 := ⟨f - 1, by omega⟩
    rw [lu_X12_holds_21, show (99 : Int32) = nI 99 from rfl, if_neg (show ¬ nI 99 < nI i from fun q => by have := (nI_ltI (by omega) (by omega)).mp q; omega)]
    obtain ⟨M1, e1, s1⟩ := E_isUp h d hB eB ht (v := i) (by omega)
    (rw [e1, ra_I]; simp only [Option.bind_some])
    unfold fst1
    by_cases hv : t * B < i
    · simp only [decide_eq_true hv, mb_t, c10, if_false, if_true]
      exact ⟨M1, rfl, s1⟩
    · simp only [decide_eq_false hv, mb_f, c00, if_true, Bool.false_eq_true, if_false]
      obtain ⟨M3, e3, s3⟩ := ih (i + 1) f M1 (h.sm s1) (by rw [skI_fr s1.fr]; exact eB) (by omega) (by omega)
      rw [nI_1]
      exact ⟨M3, e3, s1.tr s3⟩
theorem fst1_lt (a : Nat) : ∀ (j i : Nat), i ≤ a + 1 → fst1 (fun v => decide (a < v)) i j = if a + 1 < i + j then nI (a + 1) else -1
  | 0, i, h => by
    unfold fst1
    rw [if_neg (by omega)]
  | j + 1, i, h => by
    unfold fst1
    by_cases q : a < i
    · rw [if_pos (decide_eq_true q), if_pos (by omega), show i = a + 1 by omega]
    · rw [if_neg (by simp only [decide_eq_true_eq]; exact q), fst1_lt a j (i + 1) (by omega), show i + 1 + j = i + (j + 1) by omega]
theorem Q_holds (h : CT n xs N gv M nc nm) (d : Nat) (x : Int32) : QQ n xs N (d + 60) M 151 [.ref 16, .int x] 275 [.ref 60, .int x] := by
  have hN := h.nN
  unfold QQ
  rw [u_X11_holds]
  simp only [u_X12_holds]
  by_cases h0 : nm = 0
  · refine ⟨-1, M, M, ?_, FR.rf, ?_, FR.rf⟩
    · rw [if_pos (h.X0 h0).1]
    · rw [if_pos (h.X0 h0).2]
  · rw [if_neg (h.X1 h0).1]
    (rw [E_isWithin (d + 58) M 0 x 20, ra_I]; simp only [Option.bind_some])
    cases hw : wi 0 x 20 with
    | false =>
      refine ⟨-1, M, M, rfl, FR.rf, ?_, FR.rf⟩
      rw [if_neg (h.X1 h0).2]
      (rw [E_in (d + 58) M x 0 20, ra_I]; simp only [Option.bind_some])
      rw [hw]
      rfl
    | true =>
      obtain ⟨t, ht, rfl⟩ := wi_t (k := 20) (by decide) hw
      obtain ⟨B, hB, eB⟩ := h.skN
      rw [if_neg (show ¬ mb true = 0 by decide)]
      (rw [E_sinksX h (d + 54), ra_I]; simp only [Option.bind_some])
      rw [eB]
      obtain ⟨M3, e3, s3⟩ := L_holdsM (n := n) (xs := xs) (N := N) (d + 54) hB ht 100 0 N M h eB (by omega) (by omega)
      rw [fst1_lt _ _ _ (by omega)] at e3
      have hm : t * B ≤ 20 * 19 := Nat.mul_le_mul ht hB
      refine ⟨if t * B + 1 < 0 + 100 then nI (t * B + 1) else -1, M, M3, ?_, FR.rf, ?_, s3.fr⟩
      · rw [pk_mul, nI_1, show (99 : Int32) = nI 99 from rfl]
        by_cases q : t * B + 1 < 0 + 100
        · rw [if_pos q, if_neg (show ¬ nI 99 < nI (t * B + 1) from fun w => by have := (nI_ltI (by omega) (by omega)).mp w; omega)]
        · rw [if_neg q, if_pos (nI_lt (by omega) (by omega))]
      · rw [if_neg (h.X1 h0).2]
        (rw [E_in (d + 58) M _ 0 20, ra_I]; simp only [Option.bind_some])
        rw [hw, if_neg (show ¬ mb true = 0 by decide)]
        exact e3
end LT
