section TX1
variable {n : Nat} {xs : Nat → Int32} {N : Nat} {gv gv' : Int32 → Int32 → Int32 → Int32 → Int32} {M M' M1 M2 : mmM} {nc nm k p z h : Nat} {bs rs : Nat → Nat → Int32} {Dk : Nat → Nat} {im : Bool}
theorem p26 {q : Nat} (hq : q < 4) : mm_p (mm_Y n xs) M 26 q = M.2.2.2.2.2 26 q := by
  rcases (show q = 0 ∨ q = 1 ∨ q = 2 ∨ q = 3 by omega) with rfl | rfl | rfl | rfl <;> rfl
/-- one law more -/
theorem IV.ad (hI : IV n xs N gv M nc nm k p z h bs rs Dk im) {c len : Nat} (hc : c < 4) (hlen : len ≤ 240) (hm87 : 87 ≤ mm_n M) (hs : ∀ a, a ≠ mm_n M → M'.1 a = M.1 a) (hn : mm_n M' = mm_n M + 1) (hz : mm_z M' = mm_z M + len) (hP : ∀ a q, a ≠ mm_n M → (a ≠ 26 ∨ q ≠ c) → M'.2.2.2.2.2 a q = M.2.2.2.2.2 a q) (hP2 : mm_p (mm_Y n xs) M' 26 c = some (mm_n M)) (hF : ∀ a, a ≠ mm_n M → tfc a = false → mm_I M' a = mm_I M a) (h25 : mm_I M 25 1 = nI c ∧ mm_I M' 25 1 = nI (c + 1)) (h60 : ∀ q, q = 25 ∨ q = 26 ∨ q = 30 ∨ q = 32 ∨ q = 43 ∨ q = 45 → mm_I M' 60 q = mm_I M 60 q) (hGX : GX n xs N gv' M') (hGM : GM n xs N gv' M') : IV n xs N gv' M' nc nm k p z h bs rs Dk im := by
  obtain ⟨⟨t1, t2, t3, t4, t5, t6⟩, i2, i3, i4, i5, i6, i7, i8, i9, ⟨i10, i11, i12⟩, i13, ⟨i14, i15⟩, i16, i17, i18, i19⟩ := hI
  have lw : lwN M' = lwN M + 1 := by unfold lwN; rw [h25.1, h25.2, nI_toInt (by omega), nI_toInt (by omega)]; omega
  have hFl : ∀ a, a < 87 → tfc a = false → mm_I M' a = mm_I M a := fun a h1 h2 => hF a (by omega) h2
  have pp : ∀ a q, a ≠ mm_n M → (a ≠ 26 ∨ q ≠ c) → mm_p (mm_Y n xs) M' a q = mm_p (mm_Y n xs) M a q := fun a q h1 h2 => by unfold mm_p; rw [hP a q h1 h2]
  have p39 : ∀ q, mm_p (mm_Y n xs) M' 39 q = mm_p (mm_Y n xs) M 39 q := fun q => pp 39 q (by omega) (by omega)
  have en : nowX M' = nowX M := by unfold nowX; rw [hFl 35 (by decide) (by decide), hFl 36 (by decide) (by decide), hFl 37 (by decide) (by decide)]
  have pq : ∀ j b, j < 4 → mm_p (mm_Y n xs) M' 26 j = some b → b = mm_n M ∨ mm_p (mm_Y n xs) M 26 j = some b := fun j b hj hb => by
    by_cases q : j = c
    · subst q; rw [hP2] at hb; exact Or.inl (Option.some.inj hb).symm
    · exact Or.inr ((pp 26 j (by omega) (Or.inr q)).symm.trans hb)
  refine ⟨⟨t1.mv (by rw [hFl 16 (by decide) (by decide)]) (hFl 34 (by decide) (by decide)) (h60 25 (by omega)) (h60 26 (by omega)) (hFl 33 (by decide) (by decide)) (hFl 74 (by decide) (by decide)) (hFl 75 (by decide) (by decide)) (hFl 76 (by decide) (by decide)), t2.mv (hFl 35 (by decide) (by decide)) (hFl 36 (by decide) (by decide)) (hFl 37 (by decide) (by decide)) (hFl 77 (by decide) (by decide)) (hFl 33 (by decide) (by decide)), hGX, hGM, fun j b hj hb => ?_, t6⟩, ?_, ?_, ?_, ?_, ?_, ?_, ⟨i8.1, by rw [en]; exact i8.2⟩, ?_, ⟨?_, ?_, ?_⟩, ?_, ⟨?_, ?_⟩, ?_, ?_, ?_, i19.1, ?_, ?_⟩
  · rcases pq j b hj hb with q | q
    · rw [q]; exact scr_hi (by omega)
    · exact t5 j b hj q
  · unfold RS at i2 ⊢
    rw [hFl 47 (by decide) (by decide), hFl 48 (by decide) (by decide), hFl 49 (by decide) (by decide), hFl 50 (by decide) (by decide), hFl 51 (by decide) (by decide), hFl 81 (by decide) (by decide), hFl 82 (by decide) (by decide), hFl 83 (by decide) (by decide), hFl 84 (by decide) (by decide), h60 43 (by omega)]
    exact i2
  · refine i3.mv (fun a _ ha => hs a (by omega)) (by rw [hn]; omega) (fun a q h1 h2 => hP a q (by omega) (by omega)) ?_ ?_ i3.2.1 i3.2.2.2.1 i3.2.2.2.2.2.2.1 i3.2.2.2.2.2.2.2.1
    · rw [hFl 38 (by decide) (by decide)]; exact i3.1
    · rw [hFl 38 (by decide) (by decide)]; exact i3.2.2.1
  · refine CP.mv i3 i4 (fun q => hP 39 q (by omega) (by omega)) (fun i o hi e => ?_)
    obtain ⟨o2, e2, B2⟩ := i3.2.2.2.2.2.2.2.2.2.1 i hi
    have : o2 = o := Option.some.inj (e2.symm.trans e)
    subst this
    have b1 := B2.1
    have b2 := B2.2.1
    exact ⟨hF _ (by omega) (tfc_hi (by omega)), hF _ (by omega) (tfc_hi (by omega)), hF _ (by omega) (tfc_hi (by omega))⟩
  · obtain ⟨x1, x2⟩ := i5
    refine ⟨by rw [h60 32 (by omega)]; exact x1, ?_⟩
    rw [hFl 79 (by decide) (by decide)]
    exact x2
  · rw [hFl 41 (by decide) (by decide), hFl 77 (by decide) (by decide)]; exact i6
  · rw [hFl 35 (by decide) (by decide)]; exact i7
  · rw [hFl 33 (by decide) (by decide), hFl 41 (by decide) (by decide)]; exact i9
  · rw [hFl 16 (by decide) (by decide)]; exact i10
  · rw [h60 45 (by omega)]; exact i11
  · rw [hFl 33 (by decide) (by decide), hFl 46 (by decide) (by decide), hFl 42 (by decide) (by decide), hFl 43 (by decide) (by decide), hFl 44 (by decide) (by decide), hFl 85 (by decide) (by decide)]; exact i12
  · rw [hFl 57 (by decide) (by decide), hFl 78 (by decide) (by decide)]; exact i13
  · rw [hFl 16 (by decide) (by decide), h60 30 (by omega)]; exact i14
  · rw [h60 30 (by omega)]; exact i15
  · rw [hFl 54 (by decide) (by decide)]; exact i16
  · rw [hFl 55 (by decide) (by decide)]; exact i17
  · intro j b hj hb
    rcases pq j b hj hb with q | q
    · subst q
      refine ⟨by rw [hn]; omega, fun w => by omega, fun i o hi e => ?_⟩
      rw [p39] at e
      obtain ⟨o2, e2, B2⟩ := i3.2.2.2.2.2.2.2.2.2.1 i hi
      have : o2 = o := Option.some.inj (e2.symm.trans e)
      subst this
      exact Or.inr B2.2.1
    · obtain ⟨c1, c2, c3⟩ := i18 j b hj q
      refine ⟨by rw [hn]; omega, c2, fun i o hi e => c3 i o hi ?_⟩
      rw [p39] at e
      exact e
  · rw [lw, hn]; have := i19.2.1; omega
  · rw [lw, hz]; have := i19.2.2; omega
theorem TI.ad (hT : TI n xs N M) {c len s : Nat} {L : List (List Int32 × List Int32)} (hc : c < 4) (hlen : len = (encL L).length) (hw : WFL L) (h240 : (encL L).length ≤ 240) (hL140 : L.length ≤ 140) (hs : M'.1 = mm_ups M.1 (mm_n M) (.inr (0, len))) (hn : mm_n M' = mm_n M + 1) (hz : mm_z M' = mm_z M + len) (hP : ∀ a q, a ≠ mm_n M → (a ≠ 26 ∨ q ≠ c) → M'.2.2.2.2.2 a q = M.2.2.2.2.2 a q) (hP2 : mm_p (mm_Y n xs) M' 26 c = some (mm_n M)) (hF : ∀ a, a ≠ mm_n M → tfc a = false → mm_I M' a = mm_I M a) (hRC : RC (mm_I M' (mm_n M)) 0 (encL L)) (h25 : mm_I M 25 1 = nI c ∧ mm_I M' 25 1 = nI (c + 1)) (h252 : mm_I M' 25 2 = mm_I M 25 2) (h60 : ∀ q, q = 25 ∨ q = 26 ∨ q = 29 ∨ q = 30 ∨ q = 32 ∨ q = 43 ∨ q = 45 → mm_I M' 60 q = mm_I M 60 q) (h6013 : mm_I M' 60 13 = nI (c + 1)) (hl : ∀ j, j < c → mm_I M' 65 j = mm_I M 65 j ∧ ∀ L : List (List Int32 × List Int32), L.length ≤ 140 → RML M j (140 * j) L → RML M' j (140 * j) L) (h65 : mm_I M' 65 c = nI L.length) (hR : RML M' c (140 * c) L) (hRT : RTP M' s) : TI n xs N M' := by
  obtain ⟨Ls, c', nc, nm, s0, h1, h2, l1, l2, l3, l4, l5, l6, l7, l8⟩ := hT
  obtain rfl : c' = c := (nI_eq (by omega) (by omega)).mp (l3.symm.trans h25.1)
  have pp : ∀ q, q ≠ c' → mm_p (mm_Y n xs) M' 26 q = mm_p (mm_Y n xs) M 26 q := fun q hq => by unfold mm_p; rw [hP 26 q (by omega) (Or.inr hq)]
  have hsh : ∀ a, a ≠ mm_n M → M'.1 a = M.1 a := fun a ha => by rw [hs]; exact if_neg ha
  have sn : mm_s (mm_Y n xs) M' (mm_n M) = .inr (0, (encL L).length) := by
    unfold mm_s
    rw [show Nat.blt (mm_n M) (mm_Y n xs).1 = false from by
      cases hh : Nat.blt (mm_n M) (mm_Y n xs).1 with
      | false => rfl
      | true => have := Nat.ble_eq.mp hh; have e87 : (mm_Y n xs).1 = 87 := rfl; omega]
    rw [hs, ← hlen]
    exact if_pos rfl
  have hLW : LW n xs M' (fun j => if j = c' then L else Ls j) (c' + 1) := by
    refine ⟨by omega, by omega, h25.2, h6013, by rw [h60 29 (by omega), h252]; exact l5, ?_, ?_, ?_⟩
    · rw [h252]
      rcases l6 with q | ⟨j, hj, q⟩
      · exact Or.inl q
      · exact Or.inr ⟨j, by omega, q⟩
    · intro j hj
      dsimp only
      by_cases q : j = c'
      · subst q
        rw [if_pos rfl]
        exact ⟨⟨hw, by omega, hL140, ⟨mm_n M, hP2, ⟨by omega, by omega, by omega⟩, sn, hRC⟩, h65, hR⟩, mm_n M, hP2, l1, by omega⟩
      · rw [if_neg q]
        obtain ⟨⟨k1, k2, k3, ⟨b', k4, k5, k6, k7⟩, k8, k9⟩, b, g2, g3, g4⟩ := l7 j (by omega)
        obtain ⟨u1, u2⟩ := hl j (by omega)
        obtain rfl : b = b' := Option.some.inj (g2.symm.trans k4)
        have hsb : mm_s (mm_Y n xs) M' b = mm_s (mm_Y n xs) M b := by unfold mm_s; rw [hsh b (by omega)]
        exact ⟨⟨k1, k2, k3, ⟨b, (pp j q).trans k4, k5, hsb.trans k6, by rw [hF b (by omega) (tfc_hi (by omega))]; exact k7⟩, u1.trans k8, u2 _ k3 k9⟩, b, (pp j q).trans g2, g3, by omega⟩
    · intro j g1 g2
      rw [pp j (by omega)]
      exact l8 j (by omega) g2
  obtain ⟨hN, h33, h74⟩ := h1.b
  have e33 : mm_I M' 33 = mm_I M 33 := hF 33 (by omega) (by decide)
  obtain ⟨gx, gm⟩ := hLW.G hN (by rw [e33]; exact h33) (by rw [e33, hF 74 (by omega) (by decide)]; exact h74)
  refine ⟨_, c' + 1, nc, nm, s, ?_, hRT, hLW⟩
  obtain ⟨k, p, z, h, bs, rs, Dk, im, hI⟩ := h1
  exact ⟨k, p, z, h, bs, rs, Dk, im, hI.ad hc (by omega) l1 hsh hn hz hP hP2 hF h25 (fun q hq => h60 q (by omega)) gx gm⟩
end TX1
