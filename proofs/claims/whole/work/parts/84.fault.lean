section FC
variable {n : Nat} {xs : Nat → Int32} {N : Nat} {M M1 M2 : mmM}
/-- the duchy's readers keep all -/
theorem TI.du (hT : TI n xs N M) (x : DXf M M1) (y : DMf M1 M2) : TI n xs N M2 := by
  obtain ⟨Ls, c, nc, nm, s, h1, ⟨p1, p2, p3, p4⟩, h3⟩ := id hT
  have fo : ∀ a, a ≠ 17 → a ≠ 21 → a ≠ 22 → a ≠ 60 → a ≠ 71 → a ≠ 72 → a ≠ 73 → mm_I M2 a = mm_I M a := fun a a1 a2 a3 a4 a5 a6 a7 => (y.2.2.2.2.2.1 a a4 a5 a6 a7).trans (x.2.2.2.2.2.1 a a1 a2 a3)
  have f60 : ∀ q, q ≠ 3 → q ≠ 4 → q ≠ 20 → q ≠ 21 → mm_I M2 60 q = mm_I M 60 q := fun q q1 q2 q3 q4 => (y.2.2.2.2.2.2 q q1 q2 q3 q4).trans (by rw [x.2.2.2.2.2.1 60 (by decide) (by decide) (by decide)])
  have f17 : ∀ q, q ≠ 2 → mm_I M2 17 q = mm_I M 17 q := fun q hq => (by rw [y.2.2.2.2.2.1 17 (by decide) (by decide) (by decide) (by decide)]; exact x.2.2.2.2.2.2 q hq)
  refine hT.mv (s := s) (y.1.trans x.1) (y.2.1.trans x.2.1) (y.2.2.1.trans x.2.2.1) (y.2.2.2.2.1.trans x.2.2.2.2.1) (fun a ha => fo a (tfc_ne ha (by decide)) (tfc_ne ha (by decide)) (tfc_ne ha (by decide)) (tfc_ne ha (by decide)) (tfc_ne ha (by decide)) (tfc_ne ha (by decide)) (tfc_ne ha (by decide))) (fun q _ => by rw [fo 25 (by decide) (by decide) (by decide) (by decide) (by decide) (by decide) (by decide)]) (fun q hq => f60 q (by omega) (by omega) (by omega) (by omega)) (fun j c _ _ _ => ⟨by rw [fo 65 (by decide) (by decide) (by decide) (by decide) (by decide) (by decide) (by decide)], fun L hL => RML.cg (fun a a1 a2 => fo a (by omega) (by omega) (by omega) (by omega) (by omega) (by omega) (by omega)) hL⟩) ?_
  exact ⟨p1, (f17 1 (by decide)).trans p2, (f60 2 (by decide) (by decide) (by decide) (by decide)).trans p3, by rw [fo 61 (by decide) (by decide) (by decide) (by decide) (by decide) (by decide) (by decide), fo 18 (by decide) (by decide) (by decide) (by decide) (by decide) (by decide) (by decide)]; exact p4⟩
theorem C_fault0 (hT : TI n xs N M) (d : Nat) (x : Int32) (hx : x ≠ 1) : CC n xs N (d + 60) M 101 [.ref 16, .int x] 218 [.ref 60, .int x] := by
  obtain ⟨Ls, c, nc, nm, s, h1, ⟨p1, p2, p3, p4⟩, h3⟩ := id hT
  have hN := h1.b.1
  unfold CC
  by_cases h0 : x = 0
  · obtain ⟨a1, a2⟩ := E_duX (n := n) (xs := xs) (N := N) (M := M) (T := mm_I M 18) (s := s) (by omega) (d + 51) ⟨p1, p2, fun _ _ => rfl⟩
    have mt : ∀ M1, DXf M M1 → MTp M1 (mm_I M 18) s := fun M1 x => by
      refine ⟨p1, ?_, ?_⟩
      · rw [x.2.2.2.2.2.1 60 (by decide) (by decide) (by decide)]; exact p3
      · rw [x.2.2.2.2.2.1 61 (by decide) (by decide) (by decide)]; exact fun i hi => (p4 i hi).1
    cases hd : duP (mm_I M 18) s (s + 1) 0 (fun _ => 0) (dfl 0 0 (mm_I M 21)) with
    | inl p =>
      obtain ⟨M1, e1, x1⟩ := a1 p hd
      obtain ⟨M2, e2, x2⟩ := (E_duM (n := n) (xs := xs) (N := N) (by omega) (d + 53) (mm_I M 21) (mt M1 x1)).1 p hd
      refine ⟨nI p, M1, M2, ?_, ?_, hT.du x1 x2⟩
      · rw [u_X11_fault, if_pos h0, e1, ra_I, Option.bind_some]
      · rw [u_X12_fault, if_pos h0, e2, ra_I, Option.bind_some]
    | inr q =>
      obtain ⟨M1, e1, x1, _⟩ := a2 q hd
      obtain ⟨M2, e2, x2, _⟩ := (E_duM (n := n) (xs := xs) (N := N) (by omega) (d + 53) (mm_I M 21) (mt M1 x1)).2 q hd
      refine ⟨-1, M1, M2, ?_, ?_, hT.du x1 x2⟩
      · rw [u_X11_fault, if_pos h0, e1, ra_I, Option.bind_some]
      · rw [u_X12_fault, if_pos h0, e2, ra_I, Option.bind_some]
  · refine ⟨-2, M, M, ?_, ?_, hT⟩
    · rw [u_X11_fault, if_neg h0, if_neg hx]
    · rw [u_X12_fault, if_neg h0, if_neg hx]
end FC
