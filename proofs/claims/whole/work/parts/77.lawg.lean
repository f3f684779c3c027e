/-- what the letters stand for -/
def envE (w s k y a c : Int32) : Nat → Int := fun i => if i = 0 then w.toInt else if i = 1 then s.toInt else if i = 2 then k.toInt else if i = 3 then y.toInt else if i = 4 then a.toInt else if i = 5 then c.toInt else 0
theorem envE_b {w s k y a c : Int32} (hw : bd 0 9 w) (hs : bd 0 99 s) (hk : bd 0 999 k) (hy : bd 0 9 y) (ha : bd 0 999 a) (hc : bd 0 999 c) : EB (envE w s k y a c) := by
  intro i
  unfold bd at hw hs hk hy ha hc
  unfold envE
  repeat' split
  all_goals omega
/-- the stroke's worth by no law, by one -/
def gvN (c : Int32) (w s k y : Int32) : Int32 := ((w + ((2 : Int32) * c)) - y) - ((3 : Int32) * (k / (10 : Int32)))
def gvL (L : List (List Int32 × List Int32)) (a c : Int32) (w s k y : Int32) : Int32 := Int32.ofInt (lawV (envE w s k y a c) L)
/-- the j-th law, with the class and with the model -/
def LWr (n : Nat) (xs : Nat → Int32) (M : mmM) (j : Nat) (L : List (List Int32 × List Int32)) : Prop := WFL L ∧ (encL L).length ≤ 480 ∧ L.length ≤ 140 ∧ (∃ b, mm_p (mm_Y n xs) M 26 j = some b ∧ (16 ≤ b ∧ b ≠ 25 ∧ b ≠ 31) ∧ mm_s (mm_Y n xs) M b = .inr (0, (encL L).length) ∧ RC (mm_I M b) 0 (encL L)) ∧ mm_I M 65 j = nI L.length ∧ RML M j (140 * j) L
section LG
variable {n : Nat} {xs : Nat → Int32} {N : Nat} {M : mmM}
theorem E_wLX (hN : 10000 ≤ N) (d : Nat) {j b : Nat} {L : List (List Int32 × List Int32)} (l1 : WFL L) (l2 : (encL L).length ≤ 480) (hj : j < 4) (l4 : mm_p (mm_Y n xs) M 26 j = some b) (l5 : 16 ≤ b ∧ b ≠ 25 ∧ b ≠ 31) (l6 : mm_s (mm_Y n xs) M b = .inr (0, (encL L).length)) (l7 : RC (mm_I M b) 0 (encL L)) (h2 : mm_I M 25 2 = nI j) {w s k y a c : Int32} (he : EB (envE w s k y a c)) : ∃ M1, mm_E n xs N (d + 5) 39 [.ref 25, .int w, .int s, .int k, .int y, .int a, .int c] M = some (some (.int (Int32.ofInt (lawV (envE w s k y a c) L))), M1) ∧ SX M M1 := by
  rw [u_X4_worth, h2, if_neg (nI_pos (by omega)), if_neg (show ¬ Int32.ofNat 4 ≤ nI j from fun w => by have := (nI_leI (a := 4) (by omega) (by omega)).mp w; omega), mm_inb_nI hj (by omega), nI_clamp (by omega)]
  generalize hM0 : mm_wI (mm_wI (mm_wI (mm_wI (mm_wI (mm_wI (mm_wI M 25 5 w) 25 6 s) 25 7 k) 25 8 y) 25 9 a) 25 10 c) 25 4 (0 : Int32) = M0
  have hp : mm_p (mm_Y n xs) M0 26 j = some b := by rw [← hM0]; exact l4
  have hs : mm_s (mm_Y n xs) M0 b = .inr (0, (encL L).length) := by rw [← hM0]; exact l6
  have hb : mm_I M0 b = mm_I M b := by rw [← hM0]; simp only [I_wn l5.2.1]
  have hk : ∀ i, i < 4 → mm_I M0 25 i = mm_I M 25 i := by
    intro i hi
    rw [← hM0]
    rw [I_s, if_neg (by omega), I_s, if_neg (by omega), I_s, if_neg (by omega), I_s, if_neg (by omega), I_s, if_neg (by omega), I_s, if_neg (by omega), I_s, if_neg (by omega)]
  have h4 : mm_I M0 25 4 = 0 := by rw [← hM0, I_s, if_pos rfl]
  have hx : XE M0 (envE w s k y a c) := by
    intro i hi
    rw [← hM0, I_s, if_neg (by omega)]
    unfold envE
    match i, hi with
    | 0, _ => rw [I_s, if_neg (by omega), I_s, if_neg (by omega), I_s, if_neg (by omega), I_s, if_neg (by omega), I_s, if_neg (by omega), I_s, if_pos rfl, if_pos rfl]
    | 1, _ => rw [I_s, if_neg (by omega), I_s, if_neg (by omega), I_s, if_neg (by omega), I_s, if_neg (by omega), I_s, if_pos rfl, if_neg (by omega), if_pos rfl]
    | 2, _ => rw [I_s, if_neg (by omega), I_s, if_neg (by omega), I_s, if_neg (by omega), I_s, if_pos rfl, if_neg (by omega), if_neg (by omega), if_pos rfl]
    | 3, _ => rw [I_s, if_neg (by omega), I_s, if_neg (by omega), I_s, if_pos rfl, if_neg (by omega), if_neg (by omega), if_neg (by omega), if_pos rfl]
    | 4, _ => rw [I_s, if_neg (by omega), I_s, if_pos rfl, if_neg (by omega), if_neg (by omega), if_neg (by omega), if_neg (by omega), if_pos rfl]
    | 5, _ => rw [I_s, if_pos rfl, if_neg (by omega), if_neg (by omega), if_neg (by omega), if_neg (by omega), if_neg (by omega), if_pos rfl]
  have sx : SX M M0 := ⟨by rw [← hM0], by rw [← hM0], by rw [← hM0], by rw [← hM0], by rw [← hM0], fun a a1 _ => by rw [← hM0]; simp only [I_wn a1], hk⟩
  have hK : KLX n xs M0 b (encL L).length (mm_I M b) j := ⟨(hk 2 (by omega)).trans h2, hj, hp, l5, hs, hb⟩
  rw [hp, rv_some, asR_ref, hs]
  simp only [Bool.true_and, show Nat.ble 16 26 = true from rfl, cond_true, show (Nat.ble (0 + 1) 6 && (!Nat.beq 0 2 || Nat.blt b 16)) = true from rfl]
  obtain ⟨M1, x, e1, e2, e3⟩ := L_wl (n := n) (xs := xs) (N := N) (b := b) (len := (encL L).length) (g := mm_I M b) (by omega) d he L 0 N M0 l1 hK l7 (by omega) ⟨by rw [h4]; exact nI_0.symm, trivial⟩ hx (by omega)
  refine ⟨M1, ?_, ?_⟩
  · rw [← e2, Int32.ofInt_toInt]
    exact e1
  · exact ⟨e3.1.trans sx.1, e3.2.1.trans sx.2.1, e3.2.2.1.trans sx.2.2.1, e3.2.2.2.1.trans sx.2.2.2.1, e3.2.2.2.2.1.trans sx.2.2.2.2.1, fun a a1 a2 => (e3.2.2.2.2.2.1 a a1 a2).trans (sx.2.2.2.2.2.1 a a1 a2), fun i hi => (e3.2.2.2.2.2.2 i (by omega)).trans (hk i hi)⟩
end LG
