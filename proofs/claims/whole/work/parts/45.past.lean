/-! what is kept, as values -/
def bow (b t w : Nat → Int32) : Nat → Int32 := fun j => if j ≤ 8 then b j else if j < 13 then t (j - 9) else w (j - 13)
theorem bow_b {b t w : Nat → Int32} {j : Nat} (h : j ≤ 8) : bow b t w j = b j := by unfold bow; rw [if_pos h]
theorem bow_t {b t w : Nat → Int32} {c : Nat} (h : c < 4) : bow b t w (9 + c) = t c := by
  unfold bow
  rw [if_neg (by omega), if_pos (by omega), show 9 + c - 9 = c by omega]
theorem bow_w {b t w : Nat → Int32} {c : Nat} : bow b t w (13 + c) = w c := by
  unfold bow
  rw [if_neg (by omega), if_neg (by omega), show 13 + c - 13 = c by omega]
theorem bow_cg {b t w b' t' w' : Nat → Int32} (h1 : ∀ j, j ≤ 8 → b j = b' j) (h2 : ∀ j, j < 4 → t j = t' j ∧ w j = w' j) {j : Nat} (hj : j < 17) : bow b t w j = bow b' t' w' j := by
  unfold bow
  by_cases q : j ≤ 8
  · rw [if_pos q, if_pos q]; exact h1 j q
  · rw [if_neg q, if_neg q]
    by_cases q2 : j < 13
    · rw [if_pos q2, if_pos q2]; exact (h2 _ (by omega)).1
    · rw [if_neg q2, if_neg q2]; exact (h2 _ (by omega)).2
def nowX (M : mmM) : Nat → Int32 := bow (mm_I M 35) (mm_I M 36) (mm_I M 37)
def cns {α : Type} (x : α) (f : Nat → α) : Nat → α := fun k => if k = 0 then x else f (k - 1)
theorem cns_0 {α : Type} (x : α) (f : Nat → α) : cns x f 0 = x := rfl
theorem cns_s {α : Type} (x : α) (f : Nat → α) (k : Nat) : cns x f (k + 1) = f k := rfl
section PA
variable {n : Nat} {xs : Nat → Int32} {N : Nat} {M M1 : mmM} {p z h h1 o : Nat} {bs : Nat → Nat → Int32}
def CP (n : Nat) (xs : Nat → Int32) (M : mmM) (p z : Nat) (bs : Nat → Nat → Int32) : Prop := ∀ k, k < z → ∃ o, mm_p (mm_Y n xs) M 39 ((p + 39 - k) % 40) = some o ∧ ∀ j, j < 17 → bow (mm_I M o) (mm_I M (o + 1)) (mm_I M (o + 2)) j = bs k j
theorem WR.ix (hW : WR n xs M p z h) {k : Nat} (hk : k < z) : (p + 39 - k) % 40 < h := by
  obtain ⟨w1, w2, w3, w4, w5, w6, w7, w8, -⟩ := hW
  rcases w8 with q | q
  · omega
  · omega
/-- the cells of another bowl of the ring are not touched -/
theorem KX.away (hW : WR n xs M p z h) (hK : KX n xs M M1 p z h h1 o) {i o' : Nat} (hi : i < h) (hip : i ≠ p) (e : mm_p (mm_Y n xs) M 39 i = some o') : BO n xs M o' ∧ (o' + 3 ≤ o ∨ o + 3 ≤ o') := by
  obtain ⟨w1, w2, w3, w4, w5, w6, w7, w8, w9, w10, w11⟩ := hW
  obtain ⟨o2, e2, hB⟩ := w10 i hi
  have : o2 = o' := Option.some.inj (e2.symm.trans e)
  subst this
  refine ⟨hB, ?_⟩
  rcases hK.2.2.2.2.2.2.2.2.2.2 with ⟨a1, a2, a3, -, -⟩ | ⟨a1, a2, a3, -, -⟩
  · exact w11 i p o2 o hi a1 hip e a3
  · have := hB.2.1
    rw [a3]
    exact Or.inl this
theorem KX.p39 (hW : WR n xs M p z h) (hK : KX n xs M M1 p z h h1 o) {i : Nat} (hip : i ≠ p) : mm_p (mm_Y n xs) M1 39 i = mm_p (mm_Y n xs) M 39 i := by
  have w5 := hW.2.2.2.2.1
  rw [p_39, p_39]
  exact hK.2.2.2.2.2.2.2.1 39 i (by omega) (Or.inr hip)
theorem BO.kx (hW : WR n xs M p z h) (hK : KX n xs M M1 p z h h1 o) {o' : Nat} (hB : BO n xs M o') : BO n xs M1 o' := by
  obtain ⟨b1, b2, b3, b4, b5, b6, b7⟩ := hB
  have hn : mm_n M ≤ mm_n M1 := by
    rcases hK.2.2.2.2.2.2.2.2.2.2 with ⟨-, -, -, q, -⟩ | ⟨-, -, -, q, -⟩ <;> omega
  have k8 := hK.2.2.2.2.2.2.2.1
  have k9 := hK.2.2.2.2.2.2.2.2.1
  refine ⟨b1, by omega, ?_, ?_, ?_, ?_, ?_⟩
  · rw [s_hi b1] at b3 ⊢; rw [k9 _ (by omega)]; exact b3
  · rw [s_hi (by omega)] at b4 ⊢; rw [k9 _ (by omega)]; exact b4
  · rw [s_hi (by omega)] at b5 ⊢; rw [k9 _ (by omega)]; exact b5
  · rw [p_hi b1] at b6 ⊢; rw [k8 _ _ (by omega) (by omega)]; exact b6
  · rw [p_hi b1] at b7 ⊢; rw [k8 _ _ (by omega) (by omega)]; exact b7
theorem KX.wr (hW : WR n xs M p z h) (hK : KX n xs M M1 p z h h1 o) : WR n xs M1 ((p + 1) % 40) (min 40 (z + 1)) h1 := by
  have hW0 := hW
  obtain ⟨w1, w2, w3, w4, w5, w6, w7, w8, w9, w10, w11⟩ := hW
  obtain ⟨k1, k2, k3, k4, k5, k6, k7, k8, k9, k10, k11⟩ := id hK
  have hn : mm_n M ≤ mm_n M1 := by
    rcases k11 with ⟨-, -, -, q, -⟩ | ⟨-, -, -, q, -⟩ <;> omega
  have hh : h1 ≤ 40 ∧ p < h1 ∧ h ≤ h1 ∧ (h1 = h ∨ h1 = h + 1 ∧ p = h) := by
    rcases k11 with ⟨q1, q2, -⟩ | ⟨q1, q2, -⟩ <;> omega
  refine ⟨k2, by omega, k3, by omega, by omega, hh.1, by omega, ?_, fun i hi1 hi2 => ?_, fun i hi => ?_, fun i j oi oj hi hj hij ei ej => ?_⟩
  · rcases w8 with q | q
    · by_cases q2 : p + 1 < 40
      · left; omega
      · right; omega
    · right; omega
  · rw [hK.p39 hW0 (by omega)]
    exact w9 i hi1 (by omega)
  · by_cases q : i = p
    · subst q
      exact ⟨o, k7, k6⟩
    · obtain ⟨o', e', hB'⟩ := w10 i (by omega)
      exact ⟨o', by rw [hK.p39 hW0 q]; exact e', hB'.kx hW0 hK⟩
  · by_cases qi : i = p
    · subst qi
      have eo : oi = o := Option.some.inj (ei.symm.trans k7)
      subst eo
      rw [hK.p39 hW0 (Ne.symm hij)] at ej
      rcases (hK.away hW0 (by omega) (Ne.symm hij) ej).2 with q | q
      · exact Or.inr q
      · exact Or.inl q
    · rw [hK.p39 hW0 qi] at ei
      by_cases qj : j = p
      · subst qj
        have eo : oj = o := Option.some.inj (ej.symm.trans k7)
        subst eo
        rcases (hK.away hW0 (by omega) qi ei).2 with q | q
        · exact Or.inl q
        · exact Or.inr q
      · rw [hK.p39 hW0 qj] at ej
        exact w11 i j oi oj (by omega) (by omega) hij ei ej
theorem KX.cp (hW : WR n xs M p z h) (hK : KX n xs M M1 p z h h1 o) (hC : CP n xs M p z bs) : CP n xs M1 ((p + 1) % 40) (min 40 (z + 1)) (cns (nowX M) bs) := by
  have hW0 := hW
  obtain ⟨w1, w2, w3, w4, w5, w6, w7, w8, w9, w10, w11⟩ := hW
  obtain ⟨k1, k2, k3, k4, k5, k6, k7, k8, k9, k10, k11⟩ := id hK
  intro k hk
  cases k with
  | zero =>
    refine ⟨o, ?_, fun j hj => ?_⟩
    · rw [show ((p + 1) % 40 + 39 - 0) % 40 = p by omega]
      exact k7
    · rw [cns_0]
      exact bow_cg k4 k5 hj
  | succ k =>
    have hkz : k < z := by omega
    obtain ⟨o', e', v'⟩ := hC k hkz
    have hix := hW0.ix hkz
    have hne : (p + 39 - k) % 40 ≠ p := by omega
    obtain ⟨hB', haw⟩ := hK.away hW0 hix hne e'
    have b1 := hB'.1
    refine ⟨o', ?_, fun j hj => ?_⟩
    · rw [show ((p + 1) % 40 + 39 - (k + 1)) % 40 = (p + 39 - k) % 40 by omega, hK.p39 hW0 hne]
      exact e'
    · rw [cns_s, k1 o' (by omega) (by omega), k1 (o' + 1) (by omega) (by omega), k1 (o' + 2) (by omega) (by omega)]
      exact v' j hj
/-- taken back: only the bowl of now and the two numbers are others -/
theorem E_takeX (d : Nat) (hW : WR n xs M p z h) (hC : CP n xs M p z bs) (hz : 0 < z) : ∃ M1, mm_E n xs N (d + 2) 53 [.ref 38, .ref 35] M = some (some (.int 1), M1) ∧ M1.1 = M.1 ∧ M1.2.1 = M.2.1 ∧ M1.2.2.1 = M.2.2.1 ∧ M1.2.2.2.2.1 = M.2.2.2.2.1 ∧ M1.2.2.2.2.2 = M.2.2.2.2.2 ∧ (∀ a, a ≠ 35 → a ≠ 36 → a ≠ 37 → a ≠ 38 → mm_I M1 a = mm_I M a) ∧ mm_I M1 38 2 = nI ((p + 39) % 40) ∧ mm_I M1 38 1 = nI (z - 1) ∧ ∀ j, j < 17 → nowX M1 j = bs 0 j := by
  have hix := hW.ix hz
  obtain ⟨w1, w2, w3, w4, w5, w6, w7, w8, w9, w10, w11⟩ := hW
  obtain ⟨o, e, v⟩ := hC 0 hz
  rw [Nat.sub_zero] at e hix
  obtain ⟨o2, e2, hB⟩ := w10 _ hix
  have : o2 = o := Option.some.inj (e2.symm.trans e)
  subst this
  obtain ⟨M1, e1, c1, c2, c3, c4, c5, c6, c7, c8⟩ := E_copyBack (n := n) (xs := xs) (N := N) d hB
  have r : nI p + 40 - 1 - (nI p + 40 - 1) / 40 * 40 = nI ((p + 39) % 40) := by
    rw [show (40 : Int32) = nI 40 from rfl, nI_add, show p + 40 = (p + 39) + 1 by omega, nI_pred, pk_rem (by omega) (by omega) (by omega)]
  have b1 := hB.1
  have i38 : mm_I M1 38 = mm_I M 38 := c6 38 (by decide) (by decide) (by decide)
  refine ⟨mm_wI (mm_wI M1 38 2 (nI ((p + 39) % 40))) 38 1 (nI (z - 1)), ?_, c1, c2, c3, c4, c5, ?_, ?_, ?_, ?_⟩
  · rw [u_X6_takeBack_35]
    simp only [c400, if_false]
    rw [w3, if_neg (nI_nle hz (by omega)), w1, r, if_neg (nI_pos (by omega)), if_neg (show ¬ Int32.ofNat 40 ≤ nI ((p + 39) % 40) from nI_ge (b := 40) (by omega) (by omega))]
    simp only [mm_inb_nI (show (p + 39) % 40 < 40 by omega) (by omega), mm_ble (show 16 ≤ 39 by omega), Bool.and_self, cond_true, nI_clamp (show (p + 39) % 40 < 2 ^ 31 by omega), e2, rv_some, asN_ref]
    rw [e1, ra_V, Option.bind_some, i38, w3, nI_m1 (by omega)]
  · intro a a1 a2 a3 a4
    rw [I_wn a4, I_wn a4]
    exact c6 a a1 a2 a3
  · rw [I_w, if_pos rfl, if_neg (by decide), I_w, if_pos rfl, if_pos rfl]
  · rw [I_w, if_pos rfl, if_pos rfl]
  · intro j hj
    rw [← v j hj]
    unfold nowX
    rw [I_wn (by decide), I_wn (by decide), I_wn (by decide), I_wn (by decide), I_wn (by decide), I_wn (by decide)]
    exact bow_cg c7 c8 hj
theorem E_takeX0 (d : Nat) (hW : WR n xs M p z h) (hz : z = 0) : mm_E n xs N (d + 1) 53 [.ref 38, .ref 35] M = some (some (.int 0), M) := by
  rw [u_X6_takeBack_35, hW.2.2.1, hz]
  simp only [c400, if_false]
  rw [if_pos (by rw [nI_0]; decide)]
/-- the ring, where only other cells have changed -/
theorem BO.mv (hB : BO n xs M o) (hs : ∀ a, 87 ≤ a → a < mm_n M → M1.1 a = M.1 a) (hn : mm_n M ≤ mm_n M1) (hP : ∀ a k, 87 ≤ a → a < mm_n M → M1.2.2.2.2.2 a k = M.2.2.2.2.2 a k) : BO n xs M1 o := by
  obtain ⟨b1, b2, b3, b4, b5, b6, b7⟩ := hB
  refine ⟨b1, by omega, ?_, ?_, ?_, ?_, ?_⟩
  · rw [s_hi b1] at b3 ⊢; rw [hs _ (by omega) (by omega)]; exact b3
  · rw [s_hi (by omega)] at b4 ⊢; rw [hs _ (by omega) (by omega)]; exact b4
  · rw [s_hi (by omega)] at b5 ⊢; rw [hs _ (by omega) (by omega)]; exact b5
  · rw [p_hi b1] at b6 ⊢; rw [hP _ _ b1 (by omega)]; exact b6
  · rw [p_hi b1] at b7 ⊢; rw [hP _ _ b1 (by omega)]; exact b7
theorem WR.mv {p' z' : Nat} (hW : WR n xs M p z h) (hs : ∀ a, 87 ≤ a → a < mm_n M → M1.1 a = M.1 a) (hn : mm_n M ≤ mm_n M1) (hP : ∀ a k, (a = 39 ∨ 87 ≤ a) → a < mm_n M → M1.2.2.2.2.2 a k = M.2.2.2.2.2 a k) (h2 : mm_I M1 38 2 = nI p') (h1 : mm_I M1 38 1 = nI z') (hp : p' < 40) (hz : z' ≤ 40) (hph : p' ≤ h) (hzp : z' ≤ p' ∨ h = 40) : WR n xs M1 p' z' h := by
  obtain ⟨w1, w2, w3, w4, w5, w6, w7, w8, w9, w10, w11⟩ := hW
  have e39 : ∀ i, mm_p (mm_Y n xs) M1 39 i = mm_p (mm_Y n xs) M 39 i := fun i => by rw [p_39, p_39]; exact hP 39 i (Or.inl rfl) (by omega)
  refine ⟨h2, hp, h1, hz, by omega, w6, hph, hzp, fun i a b => by rw [e39]; exact w9 i a b, fun i hi => ?_, fun i j oi oj hi hj hij ei ej => ?_⟩
  · obtain ⟨o, e, hB⟩ := w10 i hi
    exact ⟨o, by rw [e39]; exact e, hB.mv hs hn (fun a k ha => hP a k (Or.inr ha))⟩
  · rw [e39] at ei ej
    exact w11 i j oi oj hi hj hij ei ej
theorem CP.mv (hW : WR n xs M p z h) (hC : CP n xs M p z bs) (hP : ∀ k, M1.2.2.2.2.2 39 k = M.2.2.2.2.2 39 k) (hI : ∀ i o, i < h → mm_p (mm_Y n xs) M 39 i = some o → mm_I M1 o = mm_I M o ∧ mm_I M1 (o + 1) = mm_I M (o + 1) ∧ mm_I M1 (o + 2) = mm_I M (o + 2)) : CP n xs M1 p z bs := by
  intro k hk
  obtain ⟨o, e, v⟩ := hC k hk
  obtain ⟨i1, i2, i3⟩ := hI _ o (hW.ix hk) e
  refine ⟨o, ?_, fun j hj => ?_⟩
  · rw [p_39] at e ⊢; rw [hP]; exact e
  · rw [i1, i2, i3]; exact v j hj
theorem CP.sh (hp : p < 40) (hC : CP n xs M p z bs) (hz : z ≤ 40) (h0 : 0 < z) : CP n xs M ((p + 39) % 40) (z - 1) (fun k => bs (k + 1)) := by
  intro k hk
  obtain ⟨o, e, v⟩ := hC (k + 1) (by omega)
  refine ⟨o, ?_, v⟩
  rw [show ((p + 39) % 40 + 39 - k) % 40 = (p + 39 - (k + 1)) % 40 by omega]
  exact e
end PA
