section LC
variable {n : Nat} {xs : Nat → Int32} {N : Nat} {M M' : mmM} {Ls : Nat → List (List Int32 × List Int32)} {c : Nat} {gv : Int32 → Int32 → Int32 → Int32 → Int32} {nc nm : Nat}
theorem IE.b (h : IE n xs N gv M nc nm) : 10000 ≤ N ∧ (bd 0 9 (mm_I M 33 0) ∧ bd 0 1 (mm_I M 33 2)) ∧ ∀ k, k < 4 → mm_I M 74 k = mm_I M 33 k := by
  obtain ⟨k, p, z, h, bs, rs, Dk, im, ⟨t1, t2, t3, t4, t5, t6⟩, i2, i3, i4, i5, i6, i7, i8, i9, i10, i13, i14, i16, i17, i18, i19⟩ := h
  obtain ⟨r1, r2, r3, r4, r5, r6, r7, r8, r9, r10, r11, r12, r13, _⟩ := t1
  exact ⟨i19.1, ⟨r12, r13⟩, r9⟩
theorem TI.choose {x : Int32} (hT : TI n xs N M) (hx : ∀ c, mm_I M 25 1 = nI c → c ≤ 4 → x = -1 ∨ ∃ j, j < c ∧ x = nI j) : TI n xs N (mm_wI (mm_wI M 25 2 x) 60 29 x) := by
  obtain ⟨Ls, c, nc, nm, s, h1, h2, h3⟩ := hT
  obtain ⟨l1, l2, l3, l4, l5, l6, l7, l8⟩ := h3
  generalize hM2 : mm_wI (mm_wI M 25 2 x) 60 29 x = M2
  have s1 : M2.1 = M.1 := by rw [← hM2]
  have s2 : M2.2.1 = M.2.1 := by rw [← hM2]
  have s3 : M2.2.2.1 = M.2.2.1 := by rw [← hM2]
  have s5 : M2.2.2.2.2.2 = M.2.2.2.2.2 := by rw [← hM2]
  have fo : ∀ a, a ≠ 25 → a ≠ 60 → mm_I M2 a = mm_I M a := fun a a1 a2 => by rw [← hM2, I_wn a2, I_wn a1]
  have f25 : ∀ k, k ≠ 2 → mm_I M2 25 k = mm_I M 25 k := fun k hk => by rw [← hM2, I_wn (by decide), I_s, if_neg hk]
  have f60 : ∀ k, k ≠ 29 → mm_I M2 60 k = mm_I M 60 k := fun k hk => by rw [← hM2, I_s, if_neg hk, I_wn (by decide)]
  have e25 : mm_I M2 25 2 = x := by rw [← hM2, I_wn (by decide), I_s, if_pos rfl]
  have e60 : mm_I M2 60 29 = x := by rw [← hM2, I_s, if_pos rfl]
  have hp : ∀ a q, mm_p (mm_Y n xs) M2 a q = mm_p (mm_Y n xs) M a q := fun a q => by unfold mm_p; rw [s5]
  have hs : ∀ a, mm_s (mm_Y n xs) M2 a = mm_s (mm_Y n xs) M a := fun a => by unfold mm_s; rw [s1]
  have nn : mm_n M2 = mm_n M := s2
  have hL : LW n xs M2 Ls c := by
    refine ⟨by rw [nn]; exact l1, l2, (f25 1 (by decide)).trans l3, (f60 13 (by decide)).trans l4, by rw [e25, e60], by rw [e25]; exact hx c l3 l2, ?_, fun j g1 g2 => (hp 26 j).trans (l8 j g1 g2)⟩
    intro j hj
    obtain ⟨g1, b, g2, g3, g4⟩ := l7 j hj
    refine ⟨g1.cg (hp 26 j) (fun b' hb' => ?_) (fun a a1 a2 => fo a (by omega) (by omega)), b, (hp 26 j).trans g2, g3, by rw [nn]; exact g4⟩
    obtain rfl : b = b' := Option.some.inj (g2.symm.trans hb')
    exact ⟨hs b, fo b (by omega) (by omega)⟩
  obtain ⟨hN, h33, h74⟩ := h1.b
  obtain ⟨gx, gm⟩ := hL.G hN (by rw [fo 33 (by decide) (by decide)]; exact h33) (by rw [fo 33 (by decide) (by decide), fo 74 (by decide) (by decide)]; exact h74)
  refine ⟨Ls, c, nc, nm, s, ?_, ?_, hL⟩
  · obtain ⟨k, p, z, h, bs, rs, Dk, im, hI⟩ := h1
    exact ⟨k, p, z, h, bs, rs, Dk, im, hI.tf s1 s2 s3 s5 (fun a ha => fo a (tfc_ne ha (by decide)) (tfc_ne ha (by decide))) (f25 1 (by decide)) (fun q hq => f60 q (by omega)) gx gm⟩
  · obtain ⟨p1, p2, p3, p4⟩ := h2
    exact ⟨p1, by rw [fo 17 (by decide) (by decide)]; exact p2, (f60 2 (by decide)).trans p3, by rw [fo 61 (by decide) (by decide), fo 18 (by decide) (by decide)]; exact p4⟩
theorem B_law (hT : TI n xs N M) (d : Nat) (x : Int32) : ∃ v M1 M2, mm_E n xs N (d + 60) 104 [.ref 16, .int x] M = some (some (.int v), M1) ∧ mm_E n xs N (d + 60) 240 [.ref 60, .int x] M1 = some (some (.int v), M2) ∧ TI n xs N M2 := by
  have hT0 := hT
  obtain ⟨Ls, c, nc, nm, s, h1, h2, h3⟩ := hT
  obtain ⟨l1, l2, l3, l4, l5, l6, l7, l8⟩ := h3
  have m1 : (-1 : Int32).toInt = -1 := by decide
  have p1 : (1 : Int32).toInt = 1 := by decide
  have hc1 : (nI c).toInt = c := nI_toInt (by omega)
  have hsub : (nI c - 1).toInt = c - 1 := by rw [t_sub (by omega) (by omega), hc1, p1]
  have hx : ∀ c', mm_I M 25 1 = nI c' → c' ≤ 4 → -1 ≤ x.toInt → x.toInt < c → x = -1 ∨ ∃ j, j < c' ∧ x = nI j := by
    intro c' hc' hc4 g1 g2
    have hcc : c' = c := (nI_eq (by omega) (by omega)).mp (hc'.symm.trans l3)
    subst hcc
    by_cases g : x.toInt = -1
    · exact Or.inl (Int32.toInt_inj.mp (g.trans m1.symm))
    · obtain ⟨j, hj, rfl⟩ := nI_of (x := x) (fun w => by have := Int32.lt_iff_toInt_lt.mp w; rw [show (0 : Int32).toInt = 0 from by decide] at this; omega)
      rw [nI_toInt hj] at g2
      exact Or.inr ⟨j, by omega, rfl⟩
  have wv : wi (-1) x (nI c - 1) = (decide (-1 ≤ x.toInt) && decide (x.toInt < c)) := by
    unfold wi
    congr 1
    · exact decide_eq_decide.mpr ⟨fun w => by have := Int32.le_iff_toInt_le.mp w; omega, fun w => Int32.le_iff_toInt_le.mpr (by omega)⟩
    · exact decide_eq_decide.mpr ⟨fun w => by have := Int32.le_iff_toInt_le.mp w; omega, fun w => Int32.le_iff_toInt_le.mpr (by omega)⟩
  have l13 : ∀ M1, mm_I M1 60 = mm_I M 60 → mm_E n xs N (d + 60) 240 [.ref 60, .int x] M1 = (if (mb (decide (-1 ≤ x.toInt) && decide (x.toInt < c)) : Int32) = 0 then some (some (.int 0), M1) else some (some (.int 1), mm_wI M1 60 29 x)) := by
    intro M1 hm
    rw [u_X12_law, hm, l4, E_in, wv, ra_I, Option.bind_some]
  rw [u_X11_law, u_X4_choose, l3]
  by_cases g1 : -1 ≤ x.toInt
  · rw [if_neg (fun w => by have := Int32.lt_iff_toInt_lt.mp w; omega)]
    by_cases g2 : x.toInt < c
    · rw [if_pos (Int32.lt_iff_toInt_lt.mpr (by omega)), ra_I, Option.bind_some]
      dsimp only
      rw [if_neg (by decide), if_pos rfl]
      refine ⟨1, mm_wI M 25 2 x, mm_wI (mm_wI M 25 2 x) 60 29 x, rfl, ?_, hT0.choose (fun c' a1 a2 => hx c' a1 a2 g1 g2)⟩
      rw [l13 _ (I_wn (by decide)), decide_eq_true g1, decide_eq_true g2]
      exact if_neg (by decide)
    · rw [if_neg (fun w => by have := Int32.lt_iff_toInt_lt.mp w; omega), ra_I, Option.bind_some]
      dsimp only
      rw [if_pos rfl]
      refine ⟨0, M, M, rfl, ?_, hT0⟩
      rw [l13 _ rfl, decide_eq_false g2, Bool.and_false]
      exact if_pos rfl
  · rw [if_pos (Int32.lt_iff_toInt_lt.mpr (by omega)), ra_I, Option.bind_some]
    dsimp only
    rw [if_pos rfl]
    refine ⟨0, M, M, rfl, ?_, hT0⟩
    rw [l13 _ rfl, decide_eq_false g1, Bool.false_and]
    exact if_pos rfl
end LC
