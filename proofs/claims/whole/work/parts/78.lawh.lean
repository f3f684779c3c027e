section LG
variable {n : Nat} {xs : Nat → Int32} {N : Nat} {M : mmM}
theorem E_rule0 (d : Nat) (M : mmM) : mm_E n xs N (d + 8) 94 [.ref 32, .int 0, .int 0, .int 0] M = some (some (.int (mm_I M 33 0)), M) := by
  have h := E_rule (n := n) (xs := xs) (N := N) (d + 5) M 0 (by omega)
  rw [nI_0] at h
  exact h
theorem E_rule2 (d : Nat) (M : mmM) : mm_E n xs N (d + 8) 94 [.ref 32, .int 0, .int 0, .int 2] M = some (some (.int (mm_I M 33 2)), M) := by
  have h := E_rule (n := n) (xs := xs) (N := N) (d + 5) M 2 (by omega)
  rw [show nI 2 = 2 from by decide] at h
  exact h
theorem E_chos (d : Nat) (M : mmM) : mm_E n xs N (d + 8) 36 [.ref 25] M = some (some (.int (mm_I M 25 2)), M) := u_X4_chosen n xs N (d + 7) M
theorem E_with8 (d : Nat) (M : mmM) (a x b : Int32) : mm_E n xs N (d + 8) 178 [.int a, .int x, .int b] M = some (some (.int (i_max a (i_min b x))), M) := E_within (d + 6) M a x b
theorem GX_nA (h2 : mm_I M 25 2 = -1) : GX n xs N (gvN (mm_I M 33 2)) M := by
  intro M0 hq d w s k y hw hs hk hy
  unfold stk gvN
  rw [u_X11_whisked]
  have h10 : ¬ (10 : Int32) = 0 := by decide
  generalize (10 : Int32) = c10 at h10 ⊢
  generalize (-9 : Int32) = c9
  generalize (-1 : Int32) = c1 at h2 ⊢
  rw [E_rule0, ra_I, Option.bind_some]
  dsimp only
  rw [E_rule2, ra_I, Option.bind_some]
  dsimp only
  rw [E_chos, ra_I, Option.bind_some]
  dsimp only
  rw [if_pos ((hq.2.1 2 (by omega)).trans h2), if_neg h10, hq.1]
  rw [E_with8, ra_I, Option.bind_some]
  dsimp only
  rw [E_with8, ra_I, Option.bind_some]
  dsimp only
  exact ⟨M0, rfl, SX.rf⟩
theorem GX_lA (hN : 10000 ≤ N) {j : Nat} {L : List (List Int32 × List Int32)} (hL : LWr n xs M j L) (hj : j < 4) (h2 : mm_I M 25 2 = nI j) (ha : bd 0 999 (mm_I M 33 0)) (hc : bd 0 999 (mm_I M 33 2)) : GX n xs N (gvL L (mm_I M 33 0) (mm_I M 33 2)) M := by
  intro M0 hq d w s k y hw hs hk hy
  have he := envE_b hw hs hk hy ha hc
  obtain ⟨l1, l2, l3, ⟨b, l4, l5, l6, l7⟩, l8, l9⟩ := hL
  obtain ⟨q1, q2, q3, q4⟩ := hq
  obtain ⟨a1, a2⟩ := q4 j b hj l4
  have h20 := (q2 2 (by omega)).trans h2
  unfold stk gvL
  rw [u_X11_whisked]
  have hne : ¬ nI j = -1 := fun w => nI_pos (n := j) (by omega) (by rw [w]; decide)
  generalize (-9 : Int32) = c9
  generalize (-1 : Int32) = c1 at hne ⊢
  rw [E_rule0, ra_I, Option.bind_some]
  dsimp only
  rw [E_rule2, ra_I, Option.bind_some]
  dsimp only
  rw [E_chos, ra_I, Option.bind_some]
  dsimp only
  rw [if_neg (by rw [h20]; exact hne), q1]
  obtain ⟨M1, e1, e2⟩ := E_wLX (n := n) (xs := xs) (N := N) (M := M0) hN (d + 3) l1 l2 hj ((q3 j hj).trans l4) l5 (a1.trans l6) (by rw [a2]; exact l7) h20 he
  rw [e1, ra_I, Option.bind_some]
  dsimp only
  rw [E_with8, ra_I, Option.bind_some]
  dsimp only
  rw [E_with8, ra_I, Option.bind_some]
  dsimp only
  exact ⟨M1, rfl, e2⟩
theorem E_min8 (d : Nat) (M : mmM) (a b : Int32) : mm_E n xs N (d + 8) 304 [.int a, .int b] M = some (some (.int (i_min a b)), M) := E_min (d + 7) M a b
theorem E_max8 (d : Nat) (M : mmM) (a b : Int32) : mm_E n xs N (d + 8) 302 [.int a, .int b] M = some (some (.int (i_max a b)), M) := E_max (d + 7) M a b
theorem E_held8 (d : Nat) (M : mmM) (x : Int32) : mm_E n xs N (d + 8) 225 [.int x] M = some (some (.int (i_max 0 (i_min 99 x))), M) := E_held (d + 6) M x
theorem GM_nA (h2 : mm_I M 60 29 = -1) (h74 : mm_I M 74 2 = mm_I M 33 2) : GM n xs N (gvN (mm_I M 33 2)) M := by
  intro M0 hq d w s k y hw hs hk hy
  unfold stk gvN
  rw [u_X12_strokeBy]
  have h10 : ¬ (10 : Int32) = 0 := by decide
  generalize (10 : Int32) = c10 at h10 ⊢
  generalize (-9 : Int32) = c9
  generalize (-1 : Int32) = c1 at h2 ⊢
  rw [if_neg h10, if_pos (hq.2.2.trans h2), hq.2.1, h74]
  rw [E_min8, ra_I, Option.bind_some]
  dsimp only
  rw [E_max8, ra_I, Option.bind_some]
  dsimp only
  rw [E_held8, ra_I, Option.bind_some]
  dsimp only
  exact ⟨M0, rfl, SL.rf⟩
theorem GM_lA (hN : 10000 ≤ N) {j : Nat} {L : List (List Int32 × List Int32)} (hL : LWr n xs M j L) (hj : j < 4) (h2 : mm_I M 60 29 = nI j) (h70 : mm_I M 74 0 = mm_I M 33 0) (h74 : mm_I M 74 2 = mm_I M 33 2) (ha : bd 0 999 (mm_I M 33 0)) (hc : bd 0 999 (mm_I M 33 2)) : GM n xs N (gvL L (mm_I M 33 0) (mm_I M 33 2)) M := by
  intro M0 hq d w s k y hw hs hk hy
  have he := envE_b hw hs hk hy ha hc
  obtain ⟨l1, l2, l3, -, l8, l9⟩ := hL
  obtain ⟨q1, q2, q3⟩ := hq
  have h20 := q3.trans h2
  unfold stk gvL
  rw [u_X12_strokeBy]
  have hne : ¬ nI j = -1 := fun w => nI_pos (n := j) (by omega) (by rw [w]; decide)
  have h10 : ¬ (10 : Int32) = 0 := by decide
  generalize (10 : Int32) = c10 at h10 ⊢
  generalize (-9 : Int32) = c9
  generalize (-1 : Int32) = c1 at hne ⊢
  rw [if_neg h10, if_neg (by rw [h20]; exact hne), h20, q2, h70, h74]
  generalize hM1 : mm_wI (mm_wI (mm_wI (mm_wI (mm_wI (mm_wI M0 69 0 w) 69 1 s) 69 2 k) 69 3 y) 69 4 (mm_I M 33 0)) 69 5 (mm_I M 33 2) = M1
  have sl : SL M0 M1 := ⟨by rw [← hM1], by rw [← hM1], by rw [← hM1], by rw [← hM1], by rw [← hM1], fun a a1 _ => by rw [← hM1]; simp only [I_wn a1]⟩
  have hm : ME M1 (envE w s k y (mm_I M 33 0) (mm_I M 33 2)) := by
    intro i hi
    rw [← hM1]
    unfold envE
    match i, hi with
    | 0, _ => rw [I_s, if_neg (by omega), I_s, if_neg (by omega), I_s, if_neg (by omega), I_s, if_neg (by omega), I_s, if_neg (by omega), I_s, if_pos rfl, if_pos rfl]
    | 1, _ => rw [I_s, if_neg (by omega), I_s, if_neg (by omega), I_s, if_neg (by omega), I_s, if_neg (by omega), I_s, if_pos rfl, if_neg (by omega), if_pos rfl]
    | 2, _ => rw [I_s, if_neg (by omega), I_s, if_neg (by omega), I_s, if_neg (by omega), I_s, if_pos rfl, if_neg (by omega), if_neg (by omega), if_pos rfl]
    | 3, _ => rw [I_s, if_neg (by omega), I_s, if_neg (by omega), I_s, if_pos rfl, if_neg (by omega), if_neg (by omega), if_neg (by omega), if_pos rfl]
    | 4, _ => rw [I_s, if_neg (by omega), I_s, if_pos rfl, if_neg (by omega), if_neg (by omega), if_neg (by omega), if_neg (by omega), if_pos rfl]
    | 5, _ => rw [I_s, if_pos rfl, if_neg (by omega), if_neg (by omega), if_neg (by omega), if_neg (by omega), if_neg (by omega), if_pos rfl]
  have fr : ∀ a, 62 ≤ a → a ≤ 68 → mm_I M1 a = mm_I M a := fun a g1 g2 => (sl.2.2.2.2.2 a (by omega) (by omega)).trans (q1 a g1 g2)
  obtain ⟨M2, x, e1, e2, e3⟩ := L_ml (n := n) (xs := xs) (N := N) hN (d + 3) he (t := j) (by omega) l3 L (140 * j) N M1 l1 (RML.cg fr l9) (by omega) (by rw [fr 65 (by omega) (by omega)]; exact l8) hm (by omega)
  have e0 : mm_E n xs N (d + 8) 211 [.ref 60, .int (nI j)] M1 = some (some (.int x), M2) := by
    rw [← e1, u_X12_worthOf, show (140 : Int32) * nI j = nI (140 * j) from (Int32.ofNat_mul 140 j).symm]
  rw [e0, ra_I, Option.bind_some, ← e2, Int32.ofInt_toInt]
  dsimp only
  rw [E_min8, ra_I, Option.bind_some]
  dsimp only
  rw [E_max8, ra_I, Option.bind_some]
  dsimp only
  rw [E_held8, ra_I, Option.bind_some]
  dsimp only
  exact ⟨M2, rfl, e3.1.trans sl.1, e3.2.1.trans sl.2.1, e3.2.2.1.trans sl.2.2.1, e3.2.2.2.1.trans sl.2.2.2.1, e3.2.2.2.2.1.trans sl.2.2.2.2.1, fun a a1 a2 => (e3.2.2.2.2.2 a a2).trans (sl.2.2.2.2.2 a a1 a2)⟩
end LG
