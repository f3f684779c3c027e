section TX2
variable {n : Nat} {xs : Nat → Int32} {N : Nat} {M : mmM}
theorem E_add (d : Nat) {b c len : Nat} (hc : c < 4) (h25 : mm_I M 25 1 = nI c) (hb : 16 ≤ b) (hs : mm_s (mm_Y n xs) M b = .inr (0, len)) : mm_E n xs N (d + 2) 37 [.ref 25, .ref b] M = some (some (.int (nI c + 1 - 1)), mm_wI (mm_wP M 26 c (some b)) 25 1 (nI (c + 1))) := by
  rw [u_X4_add, u_X4_isFull, if_pos (show mm_I M 25 1 < (4 : Int32) from by rw [h25]; exact nI_lt (b := 4) hc (by omega)), ra_I, Option.bind_some]
  dsimp only
  rw [if_pos rfl, h25, mm_inb_nI hc (by omega), nI_clamp (by omega), mm_ble hb, hs, nI_1, show mm_free (mm_Y n xs) 26 c = true from by
    rcases (show c = 0 ∨ c = 1 ∨ c = 2 ∨ c = 3 by omega) with rfl | rfl | rfl | rfl <;> rfl]
  rfl
theorem C_text1 (hT : TI n xs N M) (d : Nat) : CC n xs N (d + 60) M 102 [.ref 16, .int (1 : Int32)] 220 [.ref 60, .int (1 : Int32)] := by
  obtain ⟨Ls, c, nc, nm, s, h1, ⟨p1, p2, p3, p4⟩, h3⟩ := id hT
  have hN := h1.b.1
  obtain ⟨l1, l2, l3, l4, l5, l6, l7, l8⟩ := h3
  unfold CC
  by_cases hc : c < 4
  · have mt : ∀ M1, LXf M M1 → MTp M1 (mm_I M 18) s := fun M1 x => by
      refine ⟨p1, ?_, ?_⟩
      · rw [x.2.2.2.2.2.1 60 (by decide) (by decide) (by decide)]; exact p3
      · rw [x.2.2.2.2.2.1 61 (by decide) (by decide) (by decide)]; exact fun i hi => (p4 i hi).1
    have hf : mm_E n xs N (d + 59) 35 [.ref 25] M = some (some (.int (0 : Int32)), M) := by
      rw [u_X4_isFull, if_pos (show mm_I M 25 1 < (4 : Int32) from by rw [l3]; exact nI_lt (b := 4) hc (by omega))]
    obtain ⟨a1, a2⟩ := E_lawX (n := n) (xs := xs) (N := N) (T := mm_I M 18) (s := s) (by omega) (d + 14) (M := M) ⟨p1, p2, fun _ _ => rfl⟩
    have f4 : ∀ x : Int32, x = nI c → ¬ (4 : Int32) ≤ x := fun x hx => by rw [hx]; exact (show ¬ nI 4 ≤ nI c from nI_ge hc (by omega))
    cases hd : lawP (mm_I M 18) s 241 0 [] with
    | inl p =>
      have hp := (law_ok (T := mm_I M 18) (s := s) 241 0 [] (by omega) (fun q hq => by cases hq) (Nat.le_refl _) (Nat.le_refl _)).1 p hd
      have hne : ¬ nI p = -1 := nI_ne1 (by omega)
      obtain ⟨M1, e1, x1⟩ := a1 p hd
      have y13 : mm_I M1 60 13 = nI c := by rw [x1.2.2.2.2.2.1 60 (by decide) (by decide) (by decide)]; exact l4
      obtain ⟨M2, e2, x2⟩ := (E_lawM (n := n) (xs := xs) (N := N) (by omega) (d + 21) (t := c) (y := mm_I M1 60 13) (by omega) y13 (mt M1 x1)).1 p hd
      refine ⟨-1, M1, M2, ?_, ?_, hT.lw x1 x2 (fun c' hc' hc4 => by have := (nI_eq (by omega) (by omega)).mp (hc'.symm.trans l3); omega)⟩
      · rw [u_X11_text, if_neg (by decide), if_pos rfl, hf, ra_I, Option.bind_some]
        dsimp only
        rw [if_pos rfl, e1, ra_I, Option.bind_some]
        dsimp only
        rw [if_neg hne]
      · rw [u_X12_text, if_neg (by decide), if_pos rfl, if_neg (f4 _ y13), e2, ra_I, Option.bind_some]
        dsimp only
        rw [if_neg hne]
    | inr L =>
      obtain ⟨M1, e1, x1, w1⟩ := a2 L hd
      obtain ⟨k1, k2, k3⟩ := (law_ok (T := mm_I M 18) (s := s) 241 0 [] (by omega) (fun q hq => by cases hq) (Nat.le_refl _) (Nat.le_refl _)).2 L hd
      obtain ⟨k4, k5⟩ := law_ok2 (T := mm_I M 18) (s := s) 241 0 [] (by omega) (Nat.le_refl _) L hd
      have n1 : mm_n M1 = mm_n M := x1.2.1
      have c17 : mm_E n xs N (d + 59) 73 [.ref 17, .int (0 : Int32)] M1 = some (some (.int 1), mm_wI M1 17 1 (0 : Int32)) := by
        rw [u_X9_cutBehind, if_neg (by decide), if_pos]
        rw [x1.2.2.2.2.2.2.1 1 (by decide), p2]
        exact (show nI 0 ≤ nI s from nI_le (by omega) (by omega))
      have wx : WX (mm_wI M1 17 1 (0 : Int32)) (encL L) := ⟨by rw [I_wn (by decide)]; exact w1.1, by rw [I_wn (by decide)]; exact w1.2⟩
      obtain ⟨M2, e2, ⟨m1, m2, m3, m4, m5⟩, r2⟩ := E_code (n := n) (xs := xs) (N := N) (M := mm_wI M1 17 1 (0 : Int32)) (d + 56) (by rw [show mm_n (mm_wI M1 17 1 (0 : Int32)) = mm_n M1 from rfl, n1]; exact l1) wx (by omega)
      rw [show mm_n (mm_wI M1 17 1 (0 : Int32)) = mm_n M from n1] at e2 m1 m2 m4 m5 r2
      have m1' : M2.1 = mm_ups M.1 (mm_n M) (.inr (0, (encL L).length)) := by rw [m1, show (mm_wI M1 17 1 (0 : Int32)).1 = M.1 from x1.1]
      have sn : mm_s (mm_Y n xs) M2 (mm_n M) = .inr (0, (encL L).length) := by
        unfold mm_s
        rw [show Nat.blt (mm_n M) (mm_Y n xs).1 = false from by
          cases hh : Nat.blt (mm_n M) (mm_Y n xs).1 with
          | false => rfl
          | true => have := Nat.ble_eq.mp hh; have e87 : (mm_Y n xs).1 = 87 := rfl; omega]
        rw [m1']
        exact if_pos rfl
      have h25 : mm_I M2 25 = mm_I M 25 := by rw [m4 25 (by omega), I_wn (by decide), x1.2.2.2.2.2.1 25 (by decide) (by decide) (by decide)]
      have e3 := E_add (n := n) (xs := xs) (N := N) (M := M2) (d + 57) (b := mm_n M) hc (by rw [h25]; exact l3) (by omega) sn
      generalize hM3 : mm_wI (mm_wP M2 26 c (some (mm_n M))) 25 1 (nI (c + 1)) = M3 at e3
      have g3I : ∀ a, a ≠ 25 → mm_I M3 a = mm_I M2 a := fun a ha => by rw [← hM3, I_wn ha]
      have g3o : ∀ a, a ≠ mm_n M → a ≠ 17 → a ≠ 23 → a ≠ 24 → a ≠ 25 → mm_I M3 a = mm_I M a := fun a b1 b2 b3 b4 b5 => by rw [g3I a b5, m4 a b1, I_wn b2, x1.2.2.2.2.2.1 a b2 b3 b4]
      have y13 : mm_I M3 60 13 = nI c := by rw [g3o 60 (by omega) (by decide) (by decide) (by decide) (by decide)]; exact l4
      have mt3 : MTp M3 (mm_I M 18) s := ⟨p1, by rw [g3o 60 (by omega) (by decide) (by decide) (by decide) (by decide)]; exact p3, by rw [g3o 61 (by omega) (by decide) (by decide) (by decide) (by decide)]; exact fun i hi => (p4 i hi).1⟩
      obtain ⟨M4, e4, x4, a, ⟨ms, h65, mk⟩⟩ := (E_lawM (n := n) (xs := xs) (N := N) (by omega) (d + 21) (t := c) (y := mm_I M3 60 13) (by omega) y13 mt3).2 L hd
      obtain ⟨f1, f2, f3, f4', f5, f6, f7, f8, f9, f10⟩ := x4
      have y13' : mm_I M4 60 13 = nI c := by rw [f7 13 (by decide) (by decide) (by decide) (by decide)]; exact y13
      refine ⟨nI c + 1 - 1, M3, mm_wI (mm_wI M4 60 2 (0 : Int32)) 60 13 (nI (c + 1)), ?_, ?_, ?_⟩
      · rw [u_X11_text, if_neg (by decide), if_pos rfl, hf, ra_I, Option.bind_some]
        dsimp only
        rw [if_pos rfl, e1, ra_I, Option.bind_some]
        dsimp only
        rw [if_pos rfl, c17, ra_I, Option.bind_some]
        dsimp only
        rw [e2, ra_R, Option.bind_some]
        dsimp only
        rw [e3, ra_I, Option.bind_some]
      · rw [u_X12_text, if_neg (by decide), if_pos rfl, if_neg (f4 _ y13), e4, ra_I, Option.bind_some]
        dsimp only
        rw [if_pos rfl, y13', nI_1]
      · generalize hM5 : mm_wI (mm_wI M4 60 2 (0 : Int32)) 60 13 (nI (c + 1)) = M5
        have g5I : ∀ a, a ≠ 60 → mm_I M5 a = mm_I M4 a := fun a ha => by rw [← hM5, I_wn ha, I_wn ha]
        have g5o : ∀ a, a ≠ mm_n M → a ≠ 17 → a ≠ 23 → a ≠ 24 → a ≠ 25 → a ≠ 60 → (a < 62 ∨ 68 < a) → mm_I M5 a = mm_I M a := fun a b1 b2 b3 b4 b5 b6 b7 => by rw [g5I a b6, f6 a b6 b7, g3o a b1 b2 b3 b4 b5]
        have g60 : ∀ q, q ≠ 2 → q ≠ 13 → q ≠ 3 → q ≠ 4 → q ≠ 5 → q ≠ 14 → mm_I M5 60 q = mm_I M 60 q := fun q q1 q2 q3 q4 q5 q6 => by rw [← hM5, I_s, if_neg q2, I_s, if_neg q1, f7 q q3 q4 q5 q6, g3o 60 (by omega) (by decide) (by decide) (by decide) (by decide)]
        have g25 : ∀ q, q ≠ 1 → mm_I M5 25 q = mm_I M 25 q := fun q hq => by rw [g5I 25 (by decide), f6 25 (by decide) (by omega), ← hM3, I_s, if_neg hq, ← h25]
        have g6x : ∀ a, 62 ≤ a → a ≤ 68 → mm_I M3 a = mm_I M a := fun a b1 b2 => g3o a (by omega) (by omega) (by omega) (by omega) (by omega)
        refine hT.ad (c := c) (len := (encL L).length) (s := 0) (L := L) hc rfl k1 (by omega) (by omega) ?_ ?_ ?_ ?_ ?_ ?_ ?_ ⟨l3, ?_⟩ (g25 2 (by decide)) (fun q hq => g60 q (by omega) (by omega) (by omega) (by omega) (by omega) (by omega)) ?_ ?_ ?_ ?_ ?_
        · rw [← hM5]
          show M4.1 = _
          rw [f1, ← hM3]
          exact m1'
        · rw [← hM5]
          show M4.2.1 = _
          rw [f2, ← hM3]
          exact m2
        · rw [← hM5]
          show M4.2.2.1 = _
          rw [f3, ← hM3]
          show mm_z M2 = _
          rw [m3]
          show M1.2.2.1 + _ = _
          rw [x1.2.2.1]
        · intro a q ha hq
          rw [← hM5]
          show M4.2.2.2.2.2 a q = _
          rw [f5, ← hM3]
          show mm_up M2.2.2.2.2.2 26 c (some (mm_n M)) a q = _
          rw [show mm_up M2.2.2.2.2.2 26 c (some (mm_n M)) a q = M2.2.2.2.2.2 a q from by
            by_cases ha26 : a = 26
            · subst ha26; exact up_k (by omega)
            · exact up_n ha26, m5 a q ha]
          show M1.2.2.2.2.2 a q = _
          rw [x1.2.2.2.2.1]
        · rw [p26 hc, ← hM5]
          show M4.2.2.2.2.2 26 c = _
          rw [f5, ← hM3]
          show mm_up M2.2.2.2.2.2 26 c (some (mm_n M)) 26 c = _
          exact up_e
        · intro a ha hf
          have g1 := tfc_ne hf (b := 62) (by decide)
          have g2 := tfc_ne hf (b := 63) (by decide)
          have g3 := tfc_ne hf (b := 64) (by decide)
          have g4 := tfc_ne hf (b := 65) (by decide)
          have g5 := tfc_ne hf (b := 66) (by decide)
          have g6 := tfc_ne hf (b := 67) (by decide)
          have g7 := tfc_ne hf (b := 68) (by decide)
          exact g5o a ha (tfc_ne hf (by decide)) (tfc_ne hf (by decide)) (tfc_ne hf (by decide)) (tfc_ne hf (by decide)) (tfc_ne hf (by decide)) (by omega)
        · rw [g5I _ (by omega), f6 _ (by omega) (by omega), g3I _ (by omega)]
          exact r2
        · rw [g5I 25 (by decide), f6 25 (by decide) (by omega), ← hM3, I_s, if_pos rfl]
        · rw [← hM5, I_s, if_pos rfl]
        · intro j hj
          refine ⟨by rw [g5I 65 (by decide), f9 j (by omega), g6x 65 (by omega) (by omega)], fun L' hL' hr => RML_cgr (fun k b1 b2 => ?_) (fun k b1 b2 => ?_) (Nat.le_refl _) (by omega) hr⟩
          · obtain ⟨u1, u2⟩ := f8 k (by omega)
            exact ⟨by rw [g5I 62 (by decide), u1, g6x 62 (by omega) (by omega)], by rw [g5I 63 (by decide), u2, g6x 63 (by omega) (by omega)]⟩
          · obtain ⟨u1, u2, u3⟩ := f10 k (by omega)
            exact ⟨by rw [g5I 66 (by decide), u1, g6x 66 (by omega) (by omega)], by rw [g5I 67 (by decide), u2, g6x 67 (by omega) (by omega)], by rw [g5I 68 (by decide), u3, g6x 68 (by omega) (by omega)]⟩
        · rw [g5I 65 (by decide)]; exact h65
        · have r := MKr_RML (t := c) mk ms.2.2.2.2.2.2.2.1.2 (by have := ms.2.2.2.2.2.2.2.2; have := ms.2.2.1; omega)
          exact RML.cg (fun a b1 b2 => g5I a (by omega)) r
        · refine ⟨by omega, ?_, ?_, fun i hi => by omega⟩
          · rw [g5I 17 (by decide), f6 17 (by decide) (by omega), g3I 17 (by decide), m4 17 (by omega), I_s, if_pos rfl]; exact nI_0.symm
          · rw [← hM5, I_s, if_neg (by decide), I_s, if_pos rfl]; exact nI_0.symm
  · have hc4 : c = 4 := by omega
    subst hc4
    refine ⟨-1, M, M, ?_, ?_, hT⟩
    · rw [u_X11_text, if_neg (by decide), if_pos rfl, u_X4_isFull, if_neg (show ¬ mm_I M 25 1 < (4 : Int32) from by rw [l3]; decide), ra_I, Option.bind_some]
      dsimp only
      rw [if_neg (by decide)]
    · rw [u_X12_text, if_neg (by decide), if_pos rfl, if_pos (show (4 : Int32) ≤ mm_I M 60 13 from by rw [l4]; decide)]
end TX2
