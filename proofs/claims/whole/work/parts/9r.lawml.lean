section RL2
variable {n : Nat} {xs : Nat → Int32} {N : Nat} {M M1 M2 : mmM}
theorem RML_cgr {M M' : mmM} {t : Nat} (h1 : ∀ k, 520 * t ≤ k → k < 520 * t + 520 → mm_I M' 62 k = mm_I M 62 k ∧ mm_I M' 63 k = mm_I M 63 k) (h2 : ∀ k, 140 * t ≤ k → k < 140 * t + 140 → mm_I M' 66 k = mm_I M 66 k ∧ mm_I M' 67 k = mm_I M 67 k ∧ mm_I M' 68 k = mm_I M 68 k) : ∀ {L : List (List Int32 × List Int32)} {q : Nat}, 140 * t ≤ q → q + L.length ≤ 140 * t + 140 → RML M t q L → RML M' t q L
  | [], _, _, _, _ => trivial
  | w :: r, q, hq, hl, ⟨⟨a, b, c, g1, g2, g3, g4, g5, g6, g7, g8⟩, hr⟩ => by
    rw [List.length_cons] at hl
    obtain ⟨e1, e2, e3⟩ := h2 q hq (by omega)
    exact ⟨⟨a, b, c, e1.trans g1, e2.trans g2, e3.trans g3, g4, g5, g6, RTk_cg (fun i i1 i2 => h1 i (by omega) (by omega)) g7, RTk_cg (fun i i1 i2 => h1 i (by omega) (by omega)) g8⟩, RML_cgr h1 h2 (by omega) (by omega) hr⟩
theorem TI.mv2 (hT : TI n xs N M) {s : Nat} (s1 : M2.1 = M.1) (s2 : M2.2.1 = M.2.1) (s3 : M2.2.2.1 = M.2.2.1) (s5 : M2.2.2.2.2.2 = M.2.2.2.2.2) (fo : ∀ a, tfc a = false → mm_I M2 a = mm_I M a) (f25 : ∀ q, q < 4 → mm_I M2 25 q = mm_I M 25 q) (f60 : ∀ q, q = 13 ∨ q = 25 ∨ q = 26 ∨ q = 29 ∨ q = 30 ∨ q = 32 ∨ q = 43 ∨ q = 45 → mm_I M2 60 q = mm_I M 60 q) (hl : ∀ j c, mm_I M 25 1 = nI c → c ≤ 4 → j < c → mm_I M2 65 j = mm_I M 65 j ∧ ∀ L : List (List Int32 × List Int32), L.length ≤ 140 → RML M j (140 * j) L → RML M2 j (140 * j) L) (hR : RTP M2 s) : TI n xs N M2 := by
  obtain ⟨Ls, c, nc, nm, s0, h1, h2, l1, l2, l3, l4, l5, l6, l7, l8⟩ := hT
  have hp : ∀ a q, mm_p (mm_Y n xs) M2 a q = mm_p (mm_Y n xs) M a q := fun a q => by unfold mm_p; rw [s5]
  have hs : ∀ a, mm_s (mm_Y n xs) M2 a = mm_s (mm_Y n xs) M a := fun a => by unfold mm_s; rw [s1]
  have nn : mm_n M2 = mm_n M := s2
  have hL : LW n xs M2 Ls c := by
    refine ⟨by rw [nn]; exact l1, l2, (f25 1 (by decide)).trans l3, (f60 13 (by omega)).trans l4, by rw [f60 29 (by omega), f25 2 (by decide)]; exact l5, by rw [f25 2 (by decide)]; exact l6, ?_, fun j g1 g2 => (hp 26 j).trans (l8 j g1 g2)⟩
    intro j hj
    obtain ⟨⟨k1, k2, k3, ⟨b', k4, k5, k6, k7⟩, k8, k9⟩, b, g2, g3, g4⟩ := l7 j hj
    obtain ⟨u1, u2⟩ := hl j c l3 l2 hj
    obtain rfl : b = b' := Option.some.inj (g2.symm.trans k4)
    exact ⟨⟨k1, k2, k3, ⟨b, (hp 26 j).trans k4, k5, (hs b).trans k6, by rw [fo b (tfc_hi (by omega))]; exact k7⟩, u1.trans k8, u2 _ k3 k9⟩, b, (hp 26 j).trans g2, g3, by rw [nn]; exact g4⟩
  obtain ⟨hN, h33, h74⟩ := h1.b
  obtain ⟨gx, gm⟩ := hL.G hN (by rw [fo 33 (by decide)]; exact h33) (by rw [fo 33 (by decide), fo 74 (by decide)]; exact h74)
  refine ⟨Ls, c, nc, nm, s, ?_, hR, hL⟩
  obtain ⟨k, p, z, h, bs, rs, Dk, im, hI⟩ := h1
  exact ⟨k, p, z, h, bs, rs, Dk, im, hI.tf s1 s2 s3 s5 fo (f25 1 (by decide)) (fun q hq => f60 q (by omega)) gx gm⟩
/-- the readers of laws keep all, where the text read is none of the laws -/
theorem TI.lw (hT : TI n xs N M) {t : Nat} (x : LXf M M1) (y : LMo t M1 M2) (ht : ∀ c, mm_I M 25 1 = nI c → c ≤ 4 → c ≤ t) : TI n xs N M2 := by
  obtain ⟨Ls, c, nc, nm, s, h1, ⟨p1, p2, p3, p4⟩, h3⟩ := id hT
  have fo : ∀ a, a ≠ 17 → a ≠ 23 → a ≠ 24 → a ≠ 60 → (a < 62 ∨ 68 < a) → mm_I M2 a = mm_I M a := fun a a1 a2 a3 a4 a5 => (y.2.2.2.2.2.1 a a4 a5).trans (x.2.2.2.2.2.1 a a1 a2 a3)
  have fx : ∀ a, 60 ≤ a → mm_I M1 a = mm_I M a := fun a ha => x.2.2.2.2.2.1 a (by omega) (by omega) (by omega)
  have f60 : ∀ q, q ≠ 3 → q ≠ 4 → q ≠ 5 → q ≠ 14 → mm_I M2 60 q = mm_I M 60 q := fun q q1 q2 q3 q4 => (y.2.2.2.2.2.2.1 q q1 q2 q3 q4).trans (by rw [fx 60 (by omega)])
  have f17 : ∀ q, q ≠ 2 → mm_I M2 17 q = mm_I M 17 q := fun q hq => (by rw [y.2.2.2.2.2.1 17 (by decide) (by omega)]; exact x.2.2.2.2.2.2.1 q hq)
  refine hT.mv2 (s := s) (y.1.trans x.1) (y.2.1.trans x.2.1) (y.2.2.1.trans x.2.2.1) (y.2.2.2.2.1.trans x.2.2.2.2.1) (fun a ha => fo a (tfc_ne ha (by decide)) (tfc_ne ha (by decide)) (tfc_ne ha (by decide)) (tfc_ne ha (by decide)) ?_) (fun q _ => by rw [fo 25 (by decide) (by decide) (by decide) (by decide) (by omega)]) (fun q hq => f60 q (by omega) (by omega) (by omega) (by omega)) (fun j c hc hc4 hj => ?_) ?_
  · have g1 := tfc_ne ha (b := 62) (by decide)
    have g2 := tfc_ne ha (b := 63) (by decide)
    have g3 := tfc_ne ha (b := 64) (by decide)
    have g4 := tfc_ne ha (b := 65) (by decide)
    have g5 := tfc_ne ha (b := 66) (by decide)
    have g6 := tfc_ne ha (b := 67) (by decide)
    have g7 := tfc_ne ha (b := 68) (by decide)
    omega
  · have hct := ht c hc hc4
    refine ⟨(y.2.2.2.2.2.2.2.2.1 j (by omega)).trans (by rw [fx 65 (by omega)]), fun L hL hr => RML_cgr (fun k k1 k2 => ?_) (fun k k1 k2 => ?_) (Nat.le_refl _) (by omega) hr⟩
    · obtain ⟨e1, e2⟩ := y.2.2.2.2.2.2.2.1 k (by omega)
      exact ⟨e1.trans (by rw [fx 62 (by omega)]), e2.trans (by rw [fx 63 (by omega)])⟩
    · obtain ⟨e1, e2, e3⟩ := y.2.2.2.2.2.2.2.2.2 k (by omega)
      exact ⟨e1.trans (by rw [fx 66 (by omega)]), e2.trans (by rw [fx 67 (by omega)]), e3.trans (by rw [fx 68 (by omega)])⟩
  · exact ⟨p1, (f17 1 (by decide)).trans p2, (f60 2 (by decide) (by decide) (by decide) (by decide)).trans p3, by rw [fo 61 (by decide) (by decide) (by decide) (by decide) (by omega), fo 18 (by decide) (by decide) (by decide) (by decide) (by omega)]; exact p4⟩
theorem C_fault1 (hT : TI n xs N M) (d : Nat) : CC n xs N (d + 60) M 101 [.ref 16, .int (1 : Int32)] 218 [.ref 60, .int (1 : Int32)] := by
  obtain ⟨Ls, c, nc, nm, s, h1, ⟨p1, p2, p3, p4⟩, h3⟩ := id hT
  have hN := h1.b.1
  have mt : ∀ M1, LXf M M1 → MTp M1 (mm_I M 18) s := fun M1 x => by
    refine ⟨p1, ?_, ?_⟩
    · rw [x.2.2.2.2.2.1 60 (by decide) (by decide) (by decide)]; exact p3
    · rw [x.2.2.2.2.2.1 61 (by decide) (by decide) (by decide)]; exact fun i hi => (p4 i hi).1
  have ht : ∀ c, mm_I M 25 1 = nI c → c ≤ 4 → c ≤ 4 := fun c _ h => h
  obtain ⟨a1, a2⟩ := E_lawX (n := n) (xs := xs) (N := N) (T := mm_I M 18) (s := s) (by omega) (d + 14) (M := M) ⟨p1, p2, fun _ _ => rfl⟩
  unfold CC
  cases hd : lawP (mm_I M 18) s 241 0 [] with
  | inl p =>
    obtain ⟨M1, e1, x1⟩ := a1 p hd
    obtain ⟨M2, e2, x2⟩ := (E_lawM (n := n) (xs := xs) (N := N) (by omega) (d + 21) (t := 4) (y := 4) (by omega) rfl (mt M1 x1)).1 p hd
    refine ⟨nI p, M1, M2, ?_, ?_, hT.lw x1 x2 ht⟩
    · rw [u_X11_fault, if_neg (by decide), if_pos rfl, e1, ra_I, Option.bind_some]
    · rw [u_X12_fault, if_neg (by decide), if_pos rfl, e2, ra_I, Option.bind_some]
  | inr L =>
    obtain ⟨M1, e1, x1, _⟩ := a2 L hd
    obtain ⟨M2, e2, x2, _⟩ := (E_lawM (n := n) (xs := xs) (N := N) (by omega) (d + 21) (t := 4) (y := 4) (by omega) rfl (mt M1 x1)).2 L hd
    refine ⟨-1, M1, M2, ?_, ?_, hT.lw x1 x2 ht⟩
    · rw [u_X11_fault, if_neg (by decide), if_pos rfl, e1, ra_I, Option.bind_some]
    · rw [u_X12_fault, if_neg (by decide), if_pos rfl, e2, ra_I, Option.bind_some]
end RL2
