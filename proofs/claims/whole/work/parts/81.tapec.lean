section TP
variable {n : Nat} {xs : Nat → Int32} {N : Nat} {M M2 : mmM}
/-- only the tape's and the readers' cells changed: all holds again -/
theorem TI.mv (hT : TI n xs N M) {s : Nat} (s1 : M2.1 = M.1) (s2 : M2.2.1 = M.2.1) (s3 : M2.2.2.1 = M.2.2.1) (s5 : M2.2.2.2.2.2 = M.2.2.2.2.2) (fo : ∀ a, tfc a = false → mm_I M2 a = mm_I M a) (f25 : ∀ q, q < 4 → mm_I M2 25 q = mm_I M 25 q) (f60 : ∀ q, q = 13 ∨ q = 25 ∨ q = 26 ∨ q = 29 ∨ q = 30 ∨ q = 32 ∨ q = 43 ∨ q = 45 → mm_I M2 60 q = mm_I M 60 q) (hl : ∀ j c, mm_I M 25 1 = nI c → c ≤ 4 → j < c → mm_I M2 65 j = mm_I M 65 j ∧ ∀ L, RML M j (140 * j) L → RML M2 j (140 * j) L) (hR : RTP M2 s) : TI n xs N M2 := by
  obtain ⟨Ls, c, nc, nm, s0, h1, h2, l1, l2, l3, l4, l5, l6, l7, l8⟩ := hT
  have hp : ∀ a q, mm_p (mm_Y n xs) M2 a q = mm_p (mm_Y n xs) M a q := fun a q => by unfold mm_p; rw [s5]
  have hs : ∀ a, mm_s (mm_Y n xs) M2 a = mm_s (mm_Y n xs) M a := fun a => by unfold mm_s; rw [s1]
  have nn : mm_n M2 = mm_n M := s2
  have hL : LW n xs M2 Ls c := by
    refine ⟨by rw [nn]; exact l1, l2, (f25 1 (by decide)).trans l3, (f60 13 (by omega)).trans l4, by rw [f60 29 (by omega), f25 2 (by decide)]; exact l5, by rw [f25 2 (by decide)]; exact l6, ?_, fun j g1 g2 => (hp 26 j).trans (l8 j g1 g2)⟩
    intro j hj
    obtain ⟨⟨k1, k2, k3, ⟨b', k4, k5, k6, k7⟩, k8, k9⟩, b, g2, g3, g4⟩ := l7 j hj
    obtain ⟨u1, u2⟩ := hl j c l3 l2 hj
    obtain rfl : b = b' := Option.some.inj (g2.symm.trans k4)
    exact ⟨⟨k1, k2, k3, ⟨b, (hp 26 j).trans k4, k5, (hs b).trans k6, by rw [fo b (tfc_hi (by omega))]; exact k7⟩, u1.trans k8, u2 _ k9⟩, b, (hp 26 j).trans g2, g3, by rw [nn]; exact g4⟩
  obtain ⟨hN, h33, h74⟩ := h1.b
  obtain ⟨gx, gm⟩ := hL.G hN (by rw [fo 33 (by decide)]; exact h33) (by rw [fo 33 (by decide), fo 74 (by decide)]; exact h74)
  refine ⟨Ls, c, nc, nm, s, ?_, hR, hL⟩
  obtain ⟨k, p, z, h, bs, rs, Dk, im, hI⟩ := h1
  exact ⟨k, p, z, h, bs, rs, Dk, im, hI.tf s1 s2 s3 s5 fo (f25 1 (by decide)) (fun q hq => f60 q (by omega)) gx gm⟩
theorem TI.tape (hT : TI n xs N M) {M1 : mmM} {s : Nat} (x : TX M M1) (y : TM M1 M2) (hR : RTP M2 s) : TI n xs N M2 := by
  have fo : ∀ a, a ≠ 17 → a ≠ 18 → a ≠ 60 → a ≠ 61 → mm_I M2 a = mm_I M a := fun a a1 a2 a3 a4 => (y.2.2.2.2.1 a a3 a4).trans (x.2.2.2.2.1 a a1 a2)
  have f60 : ∀ q, q ≠ 2 → mm_I M2 60 q = mm_I M 60 q := fun q hq => (y.2.2.2.2.2.1 q hq).trans (by rw [x.2.2.2.2.1 60 (by decide) (by decide)])
  refine hT.mv (y.1.trans x.1) (y.2.1.trans x.2.1) (y.2.2.1.trans x.2.2.1) (y.2.2.2.1.trans x.2.2.2.1) (fun a ha => fo a (tfc_ne ha (by decide)) (tfc_ne ha (by decide)) (tfc_ne ha (by decide)) (tfc_ne ha (by decide))) (fun q _ => by rw [fo 25 (by decide) (by decide) (by decide) (by decide)]) (fun q hq => f60 q (by omega)) (fun j c _ _ _ => ⟨by rw [fo 65 (by decide) (by decide) (by decide) (by decide)], fun L hL => RML.cg (fun a a1 a2 => fo a (by omega) (by omega) (by omega) (by omega)) hL⟩) hR
theorem C_feed (hT : TI n xs N M) (dd : Nat) (a b c d e : Int32) : ∃ v M1 M2, mm_E n xs N (dd + 60) 99 [.ref 16, .int a, .int b, .int c, .int d, .int e] M = some (some (.int v), M1) ∧ mm_E n xs N (dd + 60) 184 [.ref 60, .int a, .int b, .int c, .int d, .int e] M1 = some (some (.int v), M2) ∧ TI n xs N M2 := by
  obtain ⟨Ls, c0, nc, nm, s, h1, h2, h3⟩ := id hT
  have hN := h1.b.1
  obtain ⟨v, s', M1, M2, e1, e2, x, y, r⟩ := B_feed (n := n) (xs := xs) (N := N) (by omega) h2 dd a b c d e
  exact ⟨v, M1, M2, e1, e2, hT.tape x y r⟩
theorem C_end (hT : TI n xs N M) (dd : Nat) (x : Int32) : ∃ v M1 M2, mm_E n xs N (dd + 60) 100 [.ref 16, .int x] M = some (some (.int v), M1) ∧ mm_E n xs N (dd + 60) 185 [.ref 60, .int x] M1 = some (some (.int v), M2) ∧ TI n xs N M2 := by
  obtain ⟨Ls, c0, nc, nm, s, h1, h2, h3⟩ := id hT
  obtain ⟨v, s', M1, M2, e1, e2, x, y, r⟩ := B_end (n := n) (xs := xs) (N := N) h2 dd x
  exact ⟨v, M1, M2, e1, e2, hT.tape x y r⟩
end TP
