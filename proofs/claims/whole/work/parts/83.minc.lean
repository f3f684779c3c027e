section MC
variable {n : Nat} {xs : Nat → Int32} {N : Nat} {M : mmM}
theorem C_minister (hT : TI n xs N M) (d : Nat) (x y : Int32) : ∃ nm v M2, nm ≤ 7 ∧ mm_I M 34 2 = nI nm ∧ mm_E n xs N (d + 60) 239 [.ref 60, .int x, .int y] M = some (some (.int v), M2) ∧ mm_I M2 60 0 = mb (!(ck nm x && wi 0 y 4)) ∧ TI n xs N M2 ∧ (ck nm x && wi 0 y 4 = true → mm_E n xs N (d + 60) 107 [.ref 16, .int x, .int y] M = some (some (.int v), M)) := by
  obtain ⟨Ls, c, nc, nm, s, ⟨k, p, z, h, bs, rs, Dk, im, hI⟩, h2, h3⟩ := id hT
  obtain ⟨v, e1, e2⟩ := M_minister hI.1 d x y
  have hr := hI.1.1
  refine ⟨nm, v, _, hr.2.1, hr.2.2.2.2.2.1, e1, by rw [I_s, if_pos rfl], ?_, e2⟩
  generalize mb (!(ck nm x && wi 0 y 4)) = u
  have fo : ∀ a, a ≠ 60 → mm_I (mm_wI M 60 0 u) a = mm_I M a := fun a ha => I_wn ha
  have f60 : ∀ q, q ≠ 0 → mm_I (mm_wI M 60 0 u) 60 q = mm_I M 60 q := fun q hq => by rw [I_s, if_neg hq]
  refine hT.mv (s := s) rfl rfl rfl rfl (fun a ha => fo a (tfc_ne ha (by decide))) (fun q _ => by rw [fo 25 (by decide)]) (fun q hq => f60 q (by omega)) (fun j c _ _ _ => ⟨by rw [fo 65 (by decide)], fun L hL => RML.cg (fun a a1 a2 => fo a (by omega)) hL⟩) ?_
  obtain ⟨p1, p2, p3, p4⟩ := h2
  exact ⟨p1, by rw [fo 17 (by decide)]; exact p2, (f60 2 (by decide)).trans p3, by rw [fo 61 (by decide), fo 18 (by decide)]; exact p4⟩
end MC
