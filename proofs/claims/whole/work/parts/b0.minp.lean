/-! the minister that there is, and the one that there isn't -/
def mn_cd : List mmE := cd_X11_minister.1.take 9
def mn_cs : List (Nat × List Bool) := [(17, [true, true, true])]
abbrev mnL (x y : Int32) : mmL := [some (.ref 16), some (.int x), some (.int y)]
section MN
variable {n : Nat} {xs : Nat → Int32} {N : Nat} {gv : Int32 → Int32 → Int32 → Int32 → Int32} {M : mmM} {nc nm : Nat}
theorem mn_row (n : Nat) (xs : Nat → Int32) (N d : Nat) (j : mmG) (M : mmM) (x y : Int32) : mm_ex (mm_Y n xs) (mm_E n xs N d) mn_cs j 1200 mn_cd (mnL x y) [] M =
  ((mm_aI (mm_E n xs N d 110 [.ref 16, .int x] M)).bind fun p1 =>
  (if p1.1 = 0 then j 17 (mnL x y) [] p1.2 else
  ((mm_aI (mm_E n xs N d 176 [.int (0 : Int32), .int y, .int (4 : Int32)] p1.2)).bind fun p2 =>
    (if p2.1 = 0 then j 17 (mnL x y) [] p2.2 else none)))) := by exact rfl
theorem wi_4 {j : Nat} (hj : j ≤ 4) : wi 0 (nI j) 4 = true := by
  have hd : ∀ j, j < 5 → wi 0 (nI j) 4 = true := by decide +kernel
  exact hd j (by omega)
theorem X11_min (hC : CT n xs N gv M nc nm) (d : Nat) {m j : Nat} (hm : m < nm) (hj : j ≤ 4) : mm_E n xs N (d + 60) 107 [.ref 16, .int (nI m), .int (nI j)] M = some (some (.int (if j = 4 then mb (ib (mm_I M 35 2) m) else mm_I M 33 (12 + m * 4 + j))), M) := by
  have h7 := hC.nm7
  have hk : ck nm (nI m) = true := ck_nI (by omega) hm
  have hw := wi_4 hj
  by_cases q : j = 4
  · subst q
    rw [if_pos rfl, u_X11_minister]
    (rw [E_hasMin (d + 56) hC.1 (nI m), ra_I]; simp only [Option.bind_some])
    rw [hk, if_neg (show ¬ mb true = 0 by decide)]
    (rw [E_isWithin (d + 58) M 0 (nI 4) 4, ra_I]; simp only [Option.bind_some])
    rw [hw, if_neg (show ¬ mb true = 0 by decide)]
    rw [if_pos (show nI 4 = (4 : Int32) from rfl)]
    (rw [E_isInside (d + 58) M m, ra_I]; simp only [Option.bind_some])
    cases ib (mm_I M 35 2) m <;> rfl
  · rw [if_neg q, u_X11_minister]
    (rw [E_hasMin (d + 56) hC.1 (nI m), ra_I]; simp only [Option.bind_some])
    rw [hk, if_neg (show ¬ mb true = 0 by decide)]
    (rw [E_isWithin (d + 58) M 0 (nI j) 4, ra_I]; simp only [Option.bind_some])
    rw [hw, if_neg (show ¬ mb true = 0 by decide)]
    rw [if_neg (show ¬ nI j = (4 : Int32) from fun e => q ((nI_eq (a := j) (b := 4) (by omega) (by omega)).mp e))]
    (rw [show mm_E n xs N (d + 59) 94 [.ref 32, .int 2, .int (nI m), .int (nI j)] M = _ from E_minI (d + 56) M m j (by omega) (by omega), ra_I]; simp only [Option.bind_some])
theorem TI.wJ (hT : TI n xs N M) (w : Int64) : TI n xs N (mm_wJ M 86 0 w) := by
  obtain ⟨Ls, c, nc, nm, s, h1, h2, h3⟩ := id hT
  exact hT.mv (s := s) rfl rfl rfl rfl (fun _ _ => rfl) (fun _ _ => rfl) (fun _ _ => rfl) (fun j c _ _ _ => ⟨rfl, fun L hL => RML.cg (M := M) (M' := mm_wJ M 86 0 w) (fun _ _ _ => rfl) hL⟩) h2
theorem min_pure (hT : TI n xs N M) (d : Nat) (x y : Int32) :
    (∃ v M3, mm_E n xs N (d + 60) 107 [.ref 16, .int x, .int y] M = some (some (.int v), M) ∧ mm_E n xs N (d + 60) 239 [.ref 60, .int x, .int y] (mm_wJ M 86 0 v.toInt64) = some (some (.int v), M3) ∧ mm_I M3 60 0 = 0 ∧ mm_J M3 86 0 = v.toInt64 ∧ TI n xs N M3) ∨
    (∃ v M3, mm_E n xs N (d + 60) 239 [.ref 60, .int x, .int y] M = some (some (.int v), M3) ∧ mm_I M3 60 0 = 1 ∧ TI n xs N M3 ∧ ∀ j : mmG, mm_ex (mm_Y n xs) (mm_E n xs N (d + 60)) mn_cs j 1200 mn_cd (mnL x y) [] M = j 17 (mnL x y) [] M) := by
  obtain ⟨nm, v0, M2, hm7, h34, e12, h60, hT2, -⟩ := C_minister hT d x y
  obtain ⟨Ls, c, nc, nm1, s, ⟨k, p, z, h, bs, rs, Dk, im, hI⟩, -, -⟩ := id hT
  have e1 : nm1 = nm := (nI_eq (by have := hI.1.nm7; omega) (by omega)).mp (hI.1.1.2.2.2.2.2.1.symm.trans h34)
  subst e1
  cases hv : (ck nm1 x && wi 0 y 4) with
  | false =>
    right
    refine ⟨v0, M2, e12, by rw [h60, hv]; rfl, hT2, fun j => ?_⟩
    rw [mn_row]
    (rw [E_hasMin (d + 57) hI.1.1 x, ra_I]; simp only [Option.bind_some])
    cases hk : ck nm1 x with
    | false => rw [if_pos (show mb false = 0 by decide)]
    | true =>
      rw [if_neg (show ¬ mb true = 0 by decide)]
      (rw [E_isWithin (d + 59) M 0 y 4, ra_I]; simp only [Option.bind_some])
      rw [hk, Bool.true_and] at hv
      rw [hv, if_pos (show mb false = 0 by decide)]
  | true =>
    left
    rw [Bool.and_eq_true] at hv
    obtain ⟨m, hm, rfl⟩ := ck_t (by omega) hv.1
    obtain ⟨j, hj, rfl⟩ := wi_t (k := 4) (by decide) hv.2
    have e11 := X11_min hI.1 d hm (show j ≤ 4 by omega)
    generalize hval : (if j = 4 then mb (ib (mm_I M 35 2) m) else mm_I M 33 (12 + m * 4 + j)) = v at e11
    have hT' := hT.wJ v.toInt64
    obtain ⟨nm2, v2, M3, hm72, h342, e122, h602, hT3, h11⟩ := C_minister hT' d (nI m) (nI j)
    obtain ⟨Ls', c', nc', nm', s', ⟨k', p', z', h', bs', rs', Dk', im', hI'⟩, -, -⟩ := id hT'
    have e2 : nm2 = nm1 := (nI_eq (by omega) (by omega)).mp (h342.symm.trans h34)
    have e3 : nm' = nm1 := (nI_eq (by have := hI'.1.nm7; omega) (by omega)).mp (hI'.1.1.2.2.2.2.2.1.symm.trans h34)
    subst e2
    subst e3
    have hvv : (ck nm' (nI m) && wi 0 (nI j) 4) = true := by rw [hv.1, hv.2]; rfl
    have e11' := X11_min hI'.1 d hm (show j ≤ 4 by omega)
    have e5 := (h11 (by simpa using hvv)).symm.trans e11'
    have e6 : v2 = v := by
      rw [← hval]
      injection e5 with e5
      injection e5 with e5 _
      injection e5 with e5
      injection e5 with e5
    subst e6
    obtain ⟨v3, e7, -⟩ := M_minister hI'.1 d (nI m) (nI j)
    have e8 := e122.symm.trans e7
    injection e8 with e8
    injection e8 with _ e8
    refine ⟨v2, M3, e11, e122, ?_, by rw [e8]; show mm_up (mm_J M) 86 0 v2.toInt64 86 0 = v2.toInt64; exact up_e, hT3⟩
    rw [h602, hvv]
    rfl
end MN
