/-! sugar, yolk, give, practise -/
/-- a bowl and a row of which some numbers are others -/
theorem bd9_lt {x : Int32} (h : bd 0 9 x) : (¬ x < 9) = (x = 9) := by
  obtain ⟨k, hk, rfl⟩ := bd_nI (h := 9) h
  apply propext
  rw [show (9 : Int32) = nI 9 from rfl, nI_ltI (by omega) (by omega), nI_eq (by omega) (by omega)]
  omega
theorem bd0_lt {x : Int32} {b : Nat} (hb : b < 2 ^ 31) (h : bd 0 b x) : (¬ 0 < x) = (x = 0) := by
  obtain ⟨k, hk, rfl⟩ := bd_nI (h := b) h
  apply propext
  rw [show (0 : Int32) = nI 0 from rfl, nI_ltI (by omega) (by omega), nI_eq (by omega) (by omega)]
  omega
section SA
variable {n : Nat} {xs : Nat → Int32} {N : Nat} {gv : Int32 → Int32 → Int32 → Int32 → Int32} {B M M' Ma M1 Mb M2 : mmM} {nc nm k p z h h1 o : Nat} {bs rs : Nat → Nat → Int32} {Dk : Nat → Nat} {im : Bool}
theorem IV.pu (hI : IV n xs N gv M nc nm k p z h bs rs Dk im) : bd 0 999 (mm_I M 35 5) := hI.1.2.1.2.2.2.2.2.2.2.2.2.2.2.2.2.2.2.1
theorem CT.b13 (h : CT n xs N gv M nc nm) : mm_I M 77 13 = mm_I M 35 5 := h.2.1.2.2.2.2.2.1
theorem E_ref0 (d : Nat) (M : mmM) : mm_E n xs N (d + 2) 126 [.ref 16, .int 0] M = some (some (.int (-1)), mm_wI M 57 0 (mm_I M 57 0 + 1)) := E_refuse d M (i := 0) (by omega)
theorem E_ref1 (d : Nat) (M : mmM) : mm_E n xs N (d + 2) 126 [.ref 16, .int 1] M = some (some (.int (-1)), mm_wI M 57 1 (mm_I M 57 1 + 1)) := E_refuse d M (i := 1) (by omega)
theorem E_ref2 (d : Nat) (M : mmM) : mm_E n xs N (d + 2) 126 [.ref 16, .int 2] M = some (some (.int (-1)), mm_wI M 57 2 (mm_I M 57 2 + 1)) := E_refuse d M (i := 2) (by omega)
theorem E_ref3 (d : Nat) (M : mmM) : mm_E n xs N (d + 2) 126 [.ref 16, .int 3] M = some (some (.int (-1)), mm_wI M 57 3 (mm_I M 57 3 + 1)) := E_refuse d M (i := 3) (by omega)
theorem E_ref4 (d : Nat) (M : mmM) : mm_E n xs N (d + 2) 126 [.ref 16, .int 4] M = some (some (.int (-1)), mm_wI M 57 4 (mm_I M 57 4 + 1)) := E_refuse d M (i := 4) (by omega)
theorem E_isr0 (d : Nat) (M : mmM) : mm_E n xs N (d + 1) 242 [.ref 60, .int 0] M = some (some (.int 1), mm_wI M 78 0 (mm_I M 78 0 + 1)) := E_isRef d M (i := 0) (by omega)
theorem E_isr1 (d : Nat) (M : mmM) : mm_E n xs N (d + 1) 242 [.ref 60, .int 1] M = some (some (.int 1), mm_wI M 78 1 (mm_I M 78 1 + 1)) := E_isRef d M (i := 1) (by omega)
theorem E_isr2 (d : Nat) (M : mmM) : mm_E n xs N (d + 1) 242 [.ref 60, .int 2] M = some (some (.int 1), mm_wI M 78 2 (mm_I M 78 2 + 1)) := E_isRef d M (i := 2) (by omega)
theorem E_isr3 (d : Nat) (M : mmM) : mm_E n xs N (d + 1) 242 [.ref 60, .int 3] M = some (some (.int 1), mm_wI M 78 3 (mm_I M 78 3 + 1)) := E_isRef d M (i := 3) (by omega)
theorem E_isr4 (d : Nat) (M : mmM) : mm_E n xs N (d + 1) 242 [.ref 60, .int 4] M = some (some (.int 1), mm_wI M 78 4 (mm_I M 78 4 + 1)) := E_isRef d M (i := 4) (by omega)
/-- fields of the bowl alone are others -/
theorem RBf.fld {e b r b' r' : Nat → Int32} (h4 : nc ≤ 4) (hR : RBf e nc nm b r) (hTS : TS nc b) (h0 : b' 0 = b 0) (h1 : b' 1 = b 1) (h2 : b' 2 = b 2) (h6 : b' 6 = b 6) (h7 : b' 7 = b 7) (h8 : b' 8 = b 8) (ht : ∀ c, c < 4 → b' (9 + c) = b (9 + c)) (hw : ∀ c, c < nc → r' c = b' (13 + c) ∧ bd 1 9 (b' (13 + c))) (hr : ∀ x, 4 ≤ x → x ≠ 11 → x ≠ 12 → x ≠ 13 → r' x = r x) (r11 : r' 11 = b' 3) (r12 : r' 12 = b' 4) (r13 : r' 13 = b' 5) (d3 : bd 0 9 (b' 3)) (d4 : bd 0 9 (b' 4)) (d5 : bd 0 999 (b' 5)) : RBf e nc nm b' r' ∧ TS nc b' := by
  obtain ⟨a1, a2, a3, a4, a5, a6, a7, a8, a9, a10, a11, a12, a13, a14, a15, a16, a17, a18, a19, a20⟩ := hR
  refine ⟨⟨?_, ?_, ?_, r11, r12, r13, ?_, ?_, ?_, fun c hc => ⟨(hw c hc).1, ?_⟩, ?_, ?_, ?_, d3, d4, d5, ?_, ?_, fun c hc => (hw c hc).2, fun c hc => ?_⟩, ?_⟩
  · rw [hr 8 (by omega) (by omega) (by omega) (by omega), h0]; exact a1
  · rw [hr 9 (by omega) (by omega) (by omega) (by omega), h1]; exact a2
  · rw [hr 10 (by omega) (by omega) (by omega) (by omega), h2]; exact a3
  · rw [hr 14 (by omega) (by omega) (by omega) (by omega), h6]; exact a7
  · rw [hr 15 (by omega) (by omega) (by omega) (by omega), h7]; exact a8
  · rw [hr 16 (by omega) (by omega) (by omega) (by omega), h8]; exact a9
  · rw [hr (4 + c) (by omega) (by omega) (by omega) (by omega), ht c (by omega)]; exact (a10 c hc).2
  · rw [h0]; exact a11
  · rw [h1]; exact a12
  · rw [h2]; exact a13
  · rw [h6]; exact a17
  · rw [h8]; exact a18
  · rw [ht c (by omega)]; exact a20 c hc
  · unfold TS at hTS ⊢
    rw [h1, tsI_cg nc (fun j hj => ht j (by omega))]
    exact hTS
theorem bd_sub {x : Int32} {a b : Nat} (ha : a < 1000) (hb : b < 100000) (h : bd 0 b x) (hx : nI a ≤ x) : bd 0 b (x - nI a) := by
  obtain ⟨k, hk, rfl⟩ := bd_nI (h := b) h
  have := (nI_leI (by omega) (by omega)).mp hx
  rw [pk_sub this]
  exact nI_bd (by omega) (by omega)
theorem A_sugar (hI : IV n xs N gv M nc nm k p z h bs rs Dk im) (d : Nat) : AA n xs N (d + 60) gv nc nm M 129 [.ref 16] 245 [.ref 60] := by
  have hC := hI.ct
  have h4 := hC.nc4
  have su := hC.su
  have pu := hI.pu
  by_cases h0 : nm = 0
  · refine AA.ref hI (i := 0) (by omega) ?_ (fun Mr hMr => ?_)
    · rw [u_X11_sugar, if_pos (hC.X0 h0).1]
      (rw [E_ref0 (d + 57) M, ra_I]; simp only [Option.bind_some])
    · subst hMr
      rw [u_X12_sugar, if_pos (hI.ct57.X0 h0).2, E_isr0 (d + 58) _, ra_I, Option.bind_some]
      dsimp only
      rw [if_neg (by decide)]
  by_cases q1 : mm_I M 35 3 < 9
  · by_cases q2 : (2 : Int32) ≤ mm_I M 35 5
    · obtain ⟨Ma, h1, o, e1, hK, fa, hCa, low⟩ := goX hI (d + 56)
      have l35 : mm_I Ma 35 = mm_I M 35 := low 35 (by decide) (by decide)
      have l36 : mm_I Ma 36 = mm_I M 36 := low 36 (by decide) (by decide)
      have l37 : mm_I Ma 37 = mm_I M 37 := low 37 (by decide) (by decide)
      have hX : BX Ma (mm_wI (mm_wI Ma 35 5 (mm_I M 35 5 - 2)) 35 3 (mm_I M 35 3 + 1)) := (BX.wI (by omega)).tr (BX.wI (by omega))
      obtain ⟨Mb, e3, hS, hMP, fb, RTb, GMb, r77⟩ := goM hI (d + 58) hK hX
      have f1 := fa.bx hI hX
      have e77 : mm_I (mm_wI (mm_wI Ma 35 5 (mm_I M 35 5 - 2)) 35 3 (mm_I M 35 3 + 1)) 77 = mm_I M 77 := by rw [I_wn (by decide), I_wn (by decide), low 77 (by decide) (by decide)]
      have ne9 : ¬ mm_I M 35 3 = 9 := fun w => by rw [w] at q1; exact absurd q1 (by decide)
      have n5 : nowX (mm_wI (mm_wI Ma 35 5 (mm_I M 35 5 - 2)) 35 3 (mm_I M 35 3 + 1)) 5 = mm_I M 35 5 - 2 := by
        rw [show nowX _ 5 = mm_I _ 35 5 from bow_b (by omega), I_w, if_pos rfl, if_neg (by decide), I_w, if_pos rfl, if_pos rfl]
      have n3 : nowX (mm_wI (mm_wI Ma 35 5 (mm_I M 35 5 - 2)) 35 3 (mm_I M 35 3 + 1)) 3 = mm_I M 35 3 + 1 := by
        rw [show nowX _ 3 = mm_I _ 35 3 from bow_b (by omega), I_w, if_pos rfl, if_pos rfl]
      have nx : ∀ x, x ≤ 8 → x ≠ 3 → x ≠ 5 → nowX (mm_wI (mm_wI Ma 35 5 (mm_I M 35 5 - 2)) 35 3 (mm_I M 35 3 + 1)) x = nowX M x := fun x hx x3 x5 => by
        rw [show nowX _ x = mm_I _ 35 x from bow_b hx, I_w, if_pos rfl, if_neg x3, I_w, if_pos rfl, if_neg x5, l35, show nowX M x = mm_I M 35 x from bow_b hx]
      have nt : ∀ c, c < 4 → nowX (mm_wI (mm_wI Ma 35 5 (mm_I M 35 5 - 2)) 35 3 (mm_I M 35 3 + 1)) (9 + c) = nowX M (9 + c) := fun c hc => by
        rw [show nowX _ (9 + c) = mm_I _ 36 c from bow_t hc, I_wn (by decide), I_wn (by decide), l36, show nowX M (9 + c) = mm_I M 36 c from bow_t hc]
      have nw : ∀ c, nowX (mm_wI (mm_wI Ma 35 5 (mm_I M 35 5 - 2)) 35 3 (mm_I M 35 3 + 1)) (13 + c) = mm_I M 37 c := fun c => by
        rw [show nowX _ (13 + c) = mm_I _ 37 c from bow_w, I_wn (by decide), I_wn (by decide), l37]
      have m77 : ∀ x, mm_I (mm_wI (mm_wI Mb 77 11 (mm_I Mb 77 11 + 1)) 77 13 (mm_I Mb 77 13 - 2)) 77 x = if x = 13 then mm_I M 35 5 - 2 else if x = 11 then mm_I M 35 3 + 1 else mm_I M 77 x := fun x => by
        rw [I_w, if_pos rfl, I_w, if_pos rfl, r77, hC.b11, hC.b13]
      obtain ⟨hRB, hTS⟩ := RBf.fld (b' := nowX (mm_wI (mm_wI Ma 35 5 (mm_I M 35 5 - 2)) 35 3 (mm_I M 35 3 + 1))) (r' := mm_I (mm_wI (mm_wI Mb 77 11 (mm_I Mb 77 11 + 1)) 77 13 (mm_I Mb 77 13 - 2)) 77) h4 ((RB_f h4).mp hC.2.1) hI.ts (nx 0 (by omega) (by omega) (by omega)) (nx 1 (by omega) (by omega) (by omega)) (nx 2 (by omega) (by omega) (by omega)) (nx 6 (by omega) (by omega) (by omega)) (nx 7 (by omega) (by omega) (by omega)) (nx 8 (by omega) (by omega) (by omega)) nt (fun c hc => by
          rw [nw c, m77, if_neg (by omega), if_neg (by omega)]
          exact ⟨(hC.cm hc).1, hC.wr hc⟩) (fun x _ x11 _ x13 => by rw [m77, if_neg x13, if_neg x11]) (by rw [m77, n3, if_neg (by decide), if_pos rfl]) (by rw [m77, if_neg (by decide), if_neg (by decide), hC.b12, nx 4 (by omega) (by omega) (by omega)]; exact (bow_b (by omega)).symm) (by rw [m77, if_pos rfl, n5]) (by
          rw [n3]
          obtain ⟨s, hs, es⟩ := bd_nI (h := 9) su
          rw [es] at q1 ⊢
          have := (nI_ltI (b := 9) (by omega) (by omega)).mp q1
          rw [nI_1]
          exact nI_bd (h := 9) (by omega) (by omega)) (by rw [nx 4 (by omega) (by omega) (by omega), show nowX M 4 = mm_I M 35 4 from bow_b (by omega)]; exact hC.yk) (by rw [n5]; exact bd_sub (a := 2) (b := 999) (by omega) (by omega) pu q2)
      have fin := act_sm hI hK hX hS hMP ((BM.wI (k := 11) (v := mm_I Mb 77 11 + 1)).tr (BM.wI (k := 13) (v := mm_I Mb 77 13 - 2))) hRB hTS (fun x hx => by rw [m77, if_neg (by omega), if_neg (by omega)]) (by rw [I_w, if_pos rfl, if_neg (by decide), I_w, if_pos rfl, if_neg (by decide), l35]) (by rw [I_wn (by decide), I_wn (by decide), low 41 (by decide) (by decide)])
      refine ⟨mm_I M 35 3 + 1, (mm_wI (mm_wI Ma 35 5 (mm_I M 35 5 - 2)) 35 3 (mm_I M 35 3 + 1)), _, ?_, ?_, fin⟩
      · rw [u_X11_sugar, if_neg (hC.X1 h0).1, if_pos q1, if_pos q2, e1, ra_V, Option.bind_some, l35]
      · rw [u_X12_sugar, f1.2.2.1 26 (by decide) (by omega), if_neg (hC.X1 h0).2, e77, hC.b11, if_neg ne9, hC.b13, if_pos q2, E_isRefN (d + 58) _, ra_I, Option.bind_some]
        dsimp only
        rw [if_pos rfl, e3, ra_V, Option.bind_some, r77, hC.b11]
    · refine AA.ref hI (i := 3) (by omega) ?_ (fun Mr hMr => ?_)
      · rw [u_X11_sugar, if_neg (hC.X1 h0).1, if_pos q1, if_neg q2]
        (rw [E_ref3 (d + 57) M, ra_I]; simp only [Option.bind_some])
      · have hCr : CT n xs N gv Mr nc nm := by rw [hMr]; exact hI.ct57
        have r35 : mm_I Mr 35 = mm_I M 35 := by rw [hMr, I_wn (by decide)]
        rw [u_X12_sugar, if_neg (hCr.X1 h0).2, hCr.b11, hCr.b13, r35, if_neg (fun w => by rw [w] at q1; exact absurd q1 (by decide)), if_neg q2, E_isr3 (d + 58) _, ra_I, Option.bind_some]
        dsimp only
        rw [if_neg (by decide)]
  · refine AA.ref hI (i := 2) (by omega) ?_ (fun Mr hMr => ?_)
    · rw [u_X11_sugar, if_neg (hC.X1 h0).1, if_neg q1]
      (rw [E_ref2 (d + 57) M, ra_I]; simp only [Option.bind_some])
    · have hCr : CT n xs N gv Mr nc nm := by rw [hMr]; exact hI.ct57
      have r35 : mm_I Mr 35 = mm_I M 35 := by rw [hMr, I_wn (by decide)]
      rw [bd9_lt su] at q1
      rw [u_X12_sugar, if_neg (hCr.X1 h0).2, hCr.b11, r35, if_pos q1, E_isr2 (d + 58) _, ra_I, Option.bind_some]
      dsimp only
      rw [if_neg (by decide)]
theorem A_yolk (hI : IV n xs N gv M nc nm k p z h bs rs Dk im) (d : Nat) : AA n xs N (d + 60) gv nc nm M 133 [.ref 16] 249 [.ref 60] := by
  have hC := hI.ct
  have h4 := hC.nc4
  have su := hC.yk
  have pu := hI.pu
  by_cases h0 : nm = 0
  · refine AA.ref hI (i := 0) (by omega) ?_ (fun Mr hMr => ?_)
    · rw [u_X11_yolk, if_pos (hC.X0 h0).1]
      (rw [E_ref0 (d + 57) M, ra_I]; simp only [Option.bind_some])
    · subst hMr
      rw [u_X12_yolk, if_pos (hI.ct57.X0 h0).2, E_isr0 (d + 58) _, ra_I, Option.bind_some]
      dsimp only
      rw [if_neg (by decide)]
  by_cases q1 : 0 < mm_I M 35 4
  · by_cases q2 : (3 : Int32) ≤ mm_I M 35 5
    · obtain ⟨Ma, h1, o, e1, hK, fa, hCa, low⟩ := goX hI (d + 56)
      have l35 : mm_I Ma 35 = mm_I M 35 := low 35 (by decide) (by decide)
      have l36 : mm_I Ma 36 = mm_I M 36 := low 36 (by decide) (by decide)
      have l37 : mm_I Ma 37 = mm_I M 37 := low 37 (by decide) (by decide)
      have hX : BX Ma (mm_wI (mm_wI Ma 35 5 (mm_I M 35 5 - 3)) 35 4 (mm_I M 35 4 - 1)) := (BX.wI (by omega)).tr (BX.wI (by omega))
      obtain ⟨Mb, e3, hS, hMP, fb, RTb, GMb, r77⟩ := goM hI (d + 58) hK hX
      have f1 := fa.bx hI hX
      have e77 : mm_I (mm_wI (mm_wI Ma 35 5 (mm_I M 35 5 - 3)) 35 4 (mm_I M 35 4 - 1)) 77 = mm_I M 77 := by rw [I_wn (by decide), I_wn (by decide), low 77 (by decide) (by decide)]
      have ne9 : ¬ mm_I M 35 4 = 0 := fun w => by rw [w] at q1; exact absurd q1 (by decide)
      have n5 : nowX (mm_wI (mm_wI Ma 35 5 (mm_I M 35 5 - 3)) 35 4 (mm_I M 35 4 - 1)) 5 = mm_I M 35 5 - 3 := by
        rw [show nowX _ 5 = mm_I _ 35 5 from bow_b (by omega), I_w, if_pos rfl, if_neg (by decide), I_w, if_pos rfl, if_pos rfl]
      have n3 : nowX (mm_wI (mm_wI Ma 35 5 (mm_I M 35 5 - 3)) 35 4 (mm_I M 35 4 - 1)) 4 = mm_I M 35 4 - 1 := by
        rw [show nowX _ 4 = mm_I _ 35 4 from bow_b (by omega), I_w, if_pos rfl, if_pos rfl]
      have nx : ∀ x, x ≤ 8 → x ≠ 4 → x ≠ 5 → nowX (mm_wI (mm_wI Ma 35 5 (mm_I M 35 5 - 3)) 35 4 (mm_I M 35 4 - 1)) x = nowX M x := fun x hx x3 x5 => by
        rw [show nowX _ x = mm_I _ 35 x from bow_b hx, I_w, if_pos rfl, if_neg x3, I_w, if_pos rfl, if_neg x5, l35, show nowX M x = mm_I M 35 x from bow_b hx]
      have nt : ∀ c, c < 4 → nowX (mm_wI (mm_wI Ma 35 5 (mm_I M 35 5 - 3)) 35 4 (mm_I M 35 4 - 1)) (9 + c) = nowX M (9 + c) := fun c hc => by
        rw [show nowX _ (9 + c) = mm_I _ 36 c from bow_t hc, I_wn (by decide), I_wn (by decide), l36, show nowX M (9 + c) = mm_I M 36 c from bow_t hc]
      have nw : ∀ c, nowX (mm_wI (mm_wI Ma 35 5 (mm_I M 35 5 - 3)) 35 4 (mm_I M 35 4 - 1)) (13 + c) = mm_I M 37 c := fun c => by
        rw [show nowX _ (13 + c) = mm_I _ 37 c from bow_w, I_wn (by decide), I_wn (by decide), l37]
      have m77 : ∀ x, mm_I (mm_wI (mm_wI Mb 77 12 (mm_I Mb 77 12 - 1)) 77 13 (mm_I Mb 77 13 - 3)) 77 x = if x = 13 then mm_I M 35 5 - 3 else if x = 12 then mm_I M 35 4 - 1 else mm_I M 77 x := fun x => by
        rw [I_w, if_pos rfl, I_w, if_pos rfl, r77, hC.b12, hC.b13]
      obtain ⟨hRB, hTS⟩ := RBf.fld (b' := nowX (mm_wI (mm_wI Ma 35 5 (mm_I M 35 5 - 3)) 35 4 (mm_I M 35 4 - 1))) (r' := mm_I (mm_wI (mm_wI Mb 77 12 (mm_I Mb 77 12 - 1)) 77 13 (mm_I Mb 77 13 - 3)) 77) h4 ((RB_f h4).mp hC.2.1) hI.ts (nx 0 (by omega) (by omega) (by omega)) (nx 1 (by omega) (by omega) (by omega)) (nx 2 (by omega) (by omega) (by omega)) (nx 6 (by omega) (by omega) (by omega)) (nx 7 (by omega) (by omega) (by omega)) (nx 8 (by omega) (by omega) (by omega)) nt (fun c hc => by
          rw [nw c, m77, if_neg (by omega), if_neg (by omega)]
          exact ⟨(hC.cm hc).1, hC.wr hc⟩) (fun x _ _ x12 x13 => by rw [m77, if_neg x13, if_neg x12]) (by rw [m77, if_neg (by decide), if_neg (by decide), hC.b11, nx 3 (by omega) (by omega) (by omega)]; exact (bow_b (by omega)).symm) (by rw [m77, n3, if_neg (by decide), if_pos rfl]) (by rw [m77, if_pos rfl, n5]) (by rw [nx 3 (by omega) (by omega) (by omega), show nowX M 3 = mm_I M 35 3 from bow_b (by omega)]; exact hC.su) (by
          rw [n3]
          exact bd_sub (a := 1) (b := 9) (by omega) (by omega) su (by
            obtain ⟨s, hs, es⟩ := bd_nI (h := 9) su
            rw [es] at q1 ⊢
            have := (nI_ltI (a := 0) (by omega) (by omega)).mp q1
            exact nI_le (by omega) (by omega))) (by rw [n5]; exact bd_sub (a := 3) (b := 999) (by omega) (by omega) pu q2)
      have fin := act_sm hI hK hX hS hMP ((BM.wI (k := 12) (v := mm_I Mb 77 12 - 1)).tr (BM.wI (k := 13) (v := mm_I Mb 77 13 - 3))) hRB hTS (fun x hx => by rw [m77, if_neg (by omega), if_neg (by omega)]) (by rw [I_w, if_pos rfl, if_neg (by decide), I_w, if_pos rfl, if_neg (by decide), l35]) (by rw [I_wn (by decide), I_wn (by decide), low 41 (by decide) (by decide)])
      refine ⟨mm_I M 35 4 - 1, (mm_wI (mm_wI Ma 35 5 (mm_I M 35 5 - 3)) 35 4 (mm_I M 35 4 - 1)), _, ?_, ?_, fin⟩
      · rw [u_X11_yolk, if_neg (hC.X1 h0).1, if_pos q1, if_pos q2, e1, ra_V, Option.bind_some, l35]
      · rw [u_X12_yolk, f1.2.2.1 26 (by decide) (by omega), if_neg (hC.X1 h0).2, e77, hC.b12, if_neg ne9, hC.b13, if_pos q2, E_isRefN (d + 58) _, ra_I, Option.bind_some]
        dsimp only
        rw [if_pos rfl, e3, ra_V, Option.bind_some, r77, hC.b12]
    · refine AA.ref hI (i := 3) (by omega) ?_ (fun Mr hMr => ?_)
      · rw [u_X11_yolk, if_neg (hC.X1 h0).1, if_pos q1, if_neg q2]
        (rw [E_ref3 (d + 57) M, ra_I]; simp only [Option.bind_some])
      · have hCr : CT n xs N gv Mr nc nm := by rw [hMr]; exact hI.ct57
        have r35 : mm_I Mr 35 = mm_I M 35 := by rw [hMr, I_wn (by decide)]
        rw [u_X12_yolk, if_neg (hCr.X1 h0).2, hCr.b12, hCr.b13, r35, if_neg (fun w => by rw [w] at q1; exact absurd q1 (by decide)), if_neg q2, E_isr3 (d + 58) _, ra_I, Option.bind_some]
        dsimp only
        rw [if_neg (by decide)]
  · refine AA.ref hI (i := 2) (by omega) ?_ (fun Mr hMr => ?_)
    · rw [u_X11_yolk, if_neg (hC.X1 h0).1, if_neg q1]
      (rw [E_ref2 (d + 57) M, ra_I]; simp only [Option.bind_some])
    · have hCr : CT n xs N gv Mr nc nm := by rw [hMr]; exact hI.ct57
      have r35 : mm_I Mr 35 = mm_I M 35 := by rw [hMr, I_wn (by decide)]
      rw [bd0_lt (b := 9) (by omega) su] at q1
      rw [u_X12_yolk, if_neg (hCr.X1 h0).2, hCr.b12, r35, if_pos q1, E_isr2 (d + 58) _, ra_I, Option.bind_some]
      dsimp only
      rw [if_neg (by decide)]
theorem A_give (hI : IV n xs N gv M nc nm k p z h bs rs Dk im) (d : Nat) (x : Int32) : AA n xs N (d + 60) gv nc nm M 134 [.ref 16, .int x] 250 [.ref 60, .int x] := by
  have hC := hI.ct
  have h4 := hC.nc4
  have pu := hI.pu
  by_cases h0 : nm = 0
  · refine AA.ref hI (i := 0) (by omega) ?_ (fun Mr hMr => ?_)
    · rw [u_X11_give, if_pos (hC.X0 h0).1]
      (rw [E_ref0 (d + 57) M, ra_I]; simp only [Option.bind_some])
    · subst hMr
      rw [u_X12_give, if_pos (hI.ct57.X0 h0).2, E_isr0 (d + 58) _, ra_I, Option.bind_some]
      dsimp only
      rw [if_neg (by decide)]
  cases hw : wi 1 x 50 with
  | false =>
    refine AA.ref hI (i := 1) (by omega) ?_ (fun Mr hMr => ?_)
    · rw [u_X11_give, if_neg (hC.X1 h0).1]
      (rw [E_isWithin (d + 58) M 1 x 50, ra_I]; simp only [Option.bind_some])
      rw [hw, if_pos (show mb false = 0 by decide)]
      (rw [E_ref1 (d + 57) M, ra_I]; simp only [Option.bind_some])
    · subst hMr
      rw [u_X12_give, if_neg (hI.ct57.X1 h0).2]
      (rw [E_in (d + 58) _ x 1 50, ra_I]; simp only [Option.bind_some])
      rw [hw, if_pos (show mb false = 0 by decide), E_isr1 (d + 58) _, ra_I, Option.bind_some]
      dsimp only
      rw [if_neg (by decide)]
  | true =>
    by_cases q2 : mm_I M 35 5 + x ≤ 999
    · obtain ⟨t, t1, t2, rfl⟩ := wi_1t (k := 50) (by decide) hw
      obtain ⟨Ma, h1, o, e1, hK, fa, hCa, low⟩ := goX hI (d + 56)
      have l35 : mm_I Ma 35 = mm_I M 35 := low 35 (by decide) (by decide)
      have l36 : mm_I Ma 36 = mm_I M 36 := low 36 (by decide) (by decide)
      have l37 : mm_I Ma 37 = mm_I M 37 := low 37 (by decide) (by decide)
      have hX : BX Ma (mm_wI Ma 35 5 (mm_I M 35 5 + nI t)) := BX.wI (by omega)
      obtain ⟨Mb, e3, hS, hMP, fb, RTb, GMb, r77⟩ := goM hI (d + 58) hK hX
      have f1 := fa.bx hI hX
      have e77 : mm_I (mm_wI Ma 35 5 (mm_I M 35 5 + nI t)) 77 = mm_I M 77 := by rw [I_wn (by decide), low 77 (by decide) (by decide)]
      have n5 : nowX (mm_wI Ma 35 5 (mm_I M 35 5 + nI t)) 5 = mm_I M 35 5 + nI t := by
        rw [show nowX _ 5 = mm_I _ 35 5 from bow_b (by omega), I_w, if_pos rfl, if_pos rfl]
      have nx : ∀ x, x ≤ 8 → x ≠ 5 → nowX (mm_wI Ma 35 5 (mm_I M 35 5 + nI t)) x = nowX M x := fun x hx x5 => by
        rw [show nowX _ x = mm_I _ 35 x from bow_b hx, I_w, if_pos rfl, if_neg x5, l35, show nowX M x = mm_I M 35 x from bow_b hx]
      have nt : ∀ c, c < 4 → nowX (mm_wI Ma 35 5 (mm_I M 35 5 + nI t)) (9 + c) = nowX M (9 + c) := fun c hc => by
        rw [show nowX _ (9 + c) = mm_I _ 36 c from bow_t hc, I_wn (by decide), l36, show nowX M (9 + c) = mm_I M 36 c from bow_t hc]
      have nw : ∀ c, nowX (mm_wI Ma 35 5 (mm_I M 35 5 + nI t)) (13 + c) = mm_I M 37 c := fun c => by
        rw [show nowX _ (13 + c) = mm_I _ 37 c from bow_w, I_wn (by decide), l37]
      have m77 : ∀ x, mm_I (mm_wI Mb 77 13 (mm_I Mb 77 13 + nI t)) 77 x = if x = 13 then mm_I M 35 5 + nI t else mm_I M 77 x := fun x => by
        rw [I_w, if_pos rfl, r77, hC.b13]
      obtain ⟨hRB, hTS⟩ := RBf.fld (b' := nowX (mm_wI Ma 35 5 (mm_I M 35 5 + nI t))) (r' := mm_I (mm_wI Mb 77 13 (mm_I Mb 77 13 + nI t)) 77) h4 ((RB_f h4).mp hC.2.1) hI.ts (nx 0 (by omega) (by omega)) (nx 1 (by omega) (by omega)) (nx 2 (by omega) (by omega)) (nx 6 (by omega) (by omega)) (nx 7 (by omega) (by omega)) (nx 8 (by omega) (by omega)) nt (fun c hc => by
          rw [nw c, m77, if_neg (by omega)]
          exact ⟨(hC.cm hc).1, hC.wr hc⟩) (fun x _ _ _ x13 => by rw [m77, if_neg x13]) (by rw [m77, if_neg (by decide), hC.b11, nx 3 (by omega) (by omega)]; exact (bow_b (by omega)).symm) (by rw [m77, if_neg (by decide), hC.b12, nx 4 (by omega) (by omega)]; exact (bow_b (by omega)).symm) (by rw [m77, if_pos rfl, n5]) (by rw [nx 3 (by omega) (by omega), show nowX M 3 = mm_I M 35 3 from bow_b (by omega)]; exact hC.su) (by rw [nx 4 (by omega) (by omega), show nowX M 4 = mm_I M 35 4 from bow_b (by omega)]; exact hC.yk) (by
          rw [n5]
          obtain ⟨s, hs, es⟩ := bd_nI (h := 999) pu
          rw [es, nI_add] at q2 ⊢
          have := (nI_leI (b := 999) (by omega) (by omega)).mp q2
          exact nI_bd (h := 999) (by omega) (by omega))
      have fin := act_sm hI hK hX hS hMP (BM.wI (k := 13) (v := mm_I Mb 77 13 + nI t)) hRB hTS (fun x hx => by rw [m77, if_neg (by omega)]) (by rw [I_w, if_pos rfl, if_neg (by decide), l35]) (by rw [I_wn (by decide), low 41 (by decide) (by decide)])
      refine ⟨mm_I M 35 5 + nI t, (mm_wI Ma 35 5 (mm_I M 35 5 + nI t)), _, ?_, ?_, fin⟩
      · rw [u_X11_give, if_neg (hC.X1 h0).1]
        (rw [E_isWithin (d + 58) M 1 (nI t) 50, ra_I]; simp only [Option.bind_some])
        rw [hw, if_neg (show ¬ mb true = 0 by decide), if_pos q2, e1, ra_V, Option.bind_some, l35]
      · rw [u_X12_give, f1.2.2.1 26 (by decide) (by omega), if_neg (hC.X1 h0).2]
        (rw [E_in (d + 58) _ (nI t) 1 50, ra_I]; simp only [Option.bind_some])
        rw [hw, if_neg (show ¬ mb true = 0 by decide), e77, hC.b13, if_pos q2, E_isRefN (d + 58) _, ra_I, Option.bind_some]
        dsimp only
        rw [if_pos rfl, e3, ra_V, Option.bind_some, r77, hC.b13]
    · refine AA.ref hI (i := 1) (by omega) ?_ (fun Mr hMr => ?_)
      · rw [u_X11_give, if_neg (hC.X1 h0).1]
        (rw [E_isWithin (d + 58) M 1 x 50, ra_I]; simp only [Option.bind_some])
        rw [hw, if_neg (show ¬ mb true = 0 by decide), if_neg q2]
        (rw [E_ref1 (d + 57) M, ra_I]; simp only [Option.bind_some])
      · have hCr : CT n xs N gv Mr nc nm := by rw [hMr]; exact hI.ct57
        have r35 : mm_I Mr 35 = mm_I M 35 := by rw [hMr, I_wn (by decide)]
        rw [u_X12_give, if_neg (hCr.X1 h0).2]
        (rw [E_in (d + 58) _ x 1 50, ra_I]; simp only [Option.bind_some])
        rw [hw, if_neg (show ¬ mb true = 0 by decide), hCr.b13, r35, if_neg q2, E_isr1 (d + 58) _, ra_I, Option.bind_some]
        dsimp only
        rw [if_neg (by decide)]
theorem A_practise (hI : IV n xs N gv M nc nm k p z h bs rs Dk im) (d : Nat) (c : Int32) : AA n xs N (d + 60) gv nc nm M 132 [.ref 16, .int c] 248 [.ref 60, .int c] := by
  have hC := hI.ct
  have h4 := hC.nc4
  have pu := hI.pu
  cases hk : ck nc c with
  | false =>
    refine AA.ref hI (i := 0) (by omega) ?_ (fun Mr hMr => ?_)
    · rw [u_X11_practise]
      (rw [E_hasCook (d + 56) hC.1, ra_I]; simp only [Option.bind_some])
      rw [hk, if_pos (show mb false = 0 by decide)]
      (rw [E_ref0 (d + 57) M, ra_I]; simp only [Option.bind_some])
    · subst hMr
      rw [u_X12_practise]
      (rw [E_isCook (d + 57) hI.ct57.1, ra_I]; simp only [Option.bind_some])
      rw [hk, if_pos (show mb false = 0 by decide), E_isr0 (d + 58) _, ra_I, Option.bind_some]
      dsimp only
      rw [if_neg (by decide)]
  | true =>
    obtain ⟨c, hc, rfl⟩ := ck_t (by omega) hk
    have w9 := hC.w9 hc
    by_cases q1 : mm_I M 37 c < 9
    · have ne9 : ¬ mm_I M 37 c = 9 := fun w => by rw [w] at q1; exact absurd q1 (by decide)
      by_cases q2 : (4 : Int32) ≤ mm_I M 35 5
      · obtain ⟨Ma, h1, o, e1, hK, fa, hCa, low⟩ := goX hI (d + 56)
        have l35 : mm_I Ma 35 = mm_I M 35 := low 35 (by decide) (by decide)
        have l36 : mm_I Ma 36 = mm_I M 36 := low 36 (by decide) (by decide)
        have l37 : mm_I Ma 37 = mm_I M 37 := low 37 (by decide) (by decide)
        have hX : BX Ma (mm_wI (mm_wI Ma 35 5 (mm_I M 35 5 - 4)) 37 c (mm_I M 37 c + 1)) := (BX.wI (by omega)).tr (BX.wI (by omega))
        obtain ⟨Mb, e3, hS, hMP, fb, RTb, GMb, r77⟩ := goM hI (d + 58) hK hX
        have f1 := fa.bx hI hX
        have e77 : mm_I (mm_wI (mm_wI Ma 35 5 (mm_I M 35 5 - 4)) 37 c (mm_I M 37 c + 1)) 77 = mm_I M 77 := by rw [I_wn (by decide), I_wn (by decide), low 77 (by decide) (by decide)]
        have c77 := (hC.cm hc).1
        have n5 : nowX (mm_wI (mm_wI Ma 35 5 (mm_I M 35 5 - 4)) 37 c (mm_I M 37 c + 1)) 5 = mm_I M 35 5 - 4 := by
          rw [show nowX _ 5 = mm_I _ 35 5 from bow_b (by omega), I_wn (by decide), I_w, if_pos rfl, if_pos rfl]
        have nx : ∀ x, x ≤ 8 → x ≠ 5 → nowX (mm_wI (mm_wI Ma 35 5 (mm_I M 35 5 - 4)) 37 c (mm_I M 37 c + 1)) x = nowX M x := fun x hx x5 => by
          rw [show nowX _ x = mm_I _ 35 x from bow_b hx, I_wn (by decide), I_w, if_pos rfl, if_neg x5, l35, show nowX M x = mm_I M 35 x from bow_b hx]
        have nt : ∀ x, x < 4 → nowX (mm_wI (mm_wI Ma 35 5 (mm_I M 35 5 - 4)) 37 c (mm_I M 37 c + 1)) (9 + x) = nowX M (9 + x) := fun x hx => by
          rw [show nowX _ (9 + x) = mm_I _ 36 x from bow_t hx, I_wn (by decide), I_wn (by decide), l36, show nowX M (9 + x) = mm_I M 36 x from bow_t hx]
        have nw : ∀ x, nowX (mm_wI (mm_wI Ma 35 5 (mm_I M 35 5 - 4)) 37 c (mm_I M 37 c + 1)) (13 + x) = if x = c then mm_I M 37 c + 1 else mm_I M 37 x := fun x => by
          rw [show nowX _ (13 + x) = mm_I _ 37 x from bow_w, I_w, if_pos rfl, I_wn (by decide), l37]
        have m77 : ∀ x, mm_I (mm_wI (mm_wI Mb 77 c (mm_I Mb 77 c + 1)) 77 13 (mm_I (mm_wI Mb 77 c (mm_I Mb 77 c + 1)) 77 13 - 4)) 77 x = if x = 13 then mm_I M 35 5 - 4 else if x = c then mm_I M 37 c + 1 else mm_I M 77 x := fun x => by
          rw [I_w, if_pos rfl, I_w, if_pos rfl, I_w, if_pos rfl, if_neg (show ¬ 13 = c by omega), r77, hC.b13, c77]
        obtain ⟨hRB, hTS⟩ := RBf.fld (b' := nowX (mm_wI (mm_wI Ma 35 5 (mm_I M 35 5 - 4)) 37 c (mm_I M 37 c + 1))) (r' := mm_I (mm_wI (mm_wI Mb 77 c (mm_I Mb 77 c + 1)) 77 13 (mm_I (mm_wI Mb 77 c (mm_I Mb 77 c + 1)) 77 13 - 4)) 77) h4 ((RB_f h4).mp hC.2.1) hI.ts (nx 0 (by omega) (by omega)) (nx 1 (by omega) (by omega)) (nx 2 (by omega) (by omega)) (nx 6 (by omega) (by omega)) (nx 7 (by omega) (by omega)) (nx 8 (by omega) (by omega)) nt (fun x hx => by
            rw [nw x, m77, if_neg (by omega)]
            by_cases q : x = c
            · subst q
              rw [if_pos rfl, if_pos rfl]
              refine ⟨rfl, ?_⟩
              obtain ⟨s, hs, es⟩ := bd_nI (h := 9) w9
              rw [es] at q1 ⊢
              have := (nI_ltI (b := 9) (by omega) (by omega)).mp q1
              rw [nI_1]
              unfold bd
              rw [nI_toInt (by omega)]
              omega
            · rw [if_neg q, if_neg q]
              exact ⟨(hC.cm hx).1, hC.wr hx⟩) (fun x x4 _ _ x13 => by rw [m77, if_neg x13, if_neg (by omega)]) (by rw [m77, if_neg (by decide), if_neg (by omega), hC.b11, nx 3 (by omega) (by omega)]; exact (bow_b (by omega)).symm) (by rw [m77, if_neg (by decide), if_neg (by omega), hC.b12, nx 4 (by omega) (by omega)]; exact (bow_b (by omega)).symm) (by rw [m77, if_pos rfl, n5]) (by rw [nx 3 (by omega) (by omega), show nowX M 3 = mm_I M 35 3 from bow_b (by omega)]; exact hC.su) (by rw [nx 4 (by omega) (by omega), show nowX M 4 = mm_I M 35 4 from bow_b (by omega)]; exact hC.yk) (by rw [n5]; exact bd_sub (a := 4) (b := 999) (by omega) (by omega) pu q2)
        have fin := act_sm hI hK hX hS hMP ((BM.wI (k := c) (v := mm_I Mb 77 c + 1)).tr (BM.wI (k := 13) (v := mm_I (mm_wI Mb 77 c (mm_I Mb 77 c + 1)) 77 13 - 4))) hRB hTS (fun x hx => by rw [m77, if_neg (by omega), if_neg (by omega)]) (by rw [I_wn (by decide), I_w, if_pos rfl, if_neg (by decide), l35]) (by rw [I_wn (by decide), I_wn (by decide), low 41 (by decide) (by decide)])
        refine ⟨mm_I M 37 c + 1, (mm_wI (mm_wI Ma 35 5 (mm_I M 35 5 - 4)) 37 c (mm_I M 37 c + 1)), _, ?_, ?_, fin⟩
        · rw [u_X11_practise]
          (rw [E_hasCook (d + 56) hC.1, ra_I]; simp only [Option.bind_some])
          rw [hk, if_neg (show ¬ mb true = 0 by decide)]
          (rw [E_wristOf (d + 58) M c (by omega), ra_I]; simp only [Option.bind_some])
          rw [if_pos q1, if_pos q2, e1, ra_V, Option.bind_some, l35, u_X0_strengthen_35, if_neg (nI_pos (by omega)), if_neg (show ¬ Int32.ofNat 4 ≤ nI c from nI_ge (b := 4) (by omega) (by omega))]
          simp only [mm_inb_nI (show c < 4 by omega) (by omega), mm_ble (show 16 ≤ 37 by omega), Bool.and_self, cond_true, nI_clamp (show c < 2 ^ 31 by omega), ra_V, Option.bind_some]
          rw [I_wn (show 37 ≠ 35 by decide), l37, E_wristOf (d + 58) _ c (by omega), ra_I, Option.bind_some]
          dsimp only
          rw [I_w, if_pos rfl, if_pos rfl]
        · have hRT1 := (CT.fa3 hI f1).1
          rw [u_X12_practise]
          (rw [E_isCook (d + 57) hRT1, ra_I]; simp only [Option.bind_some])
          rw [hk, if_neg (show ¬ mb true = 0 by decide), Int32.zero_add]
          simp only [mm_inb_nI (show c < 198 by omega) (by omega), cond_true, nI_clamp (show c < 2 ^ 31 by omega)]
          rw [e77, c77, if_neg ne9, hC.b13, if_pos q2, E_isRefN (d + 58) _, ra_I, Option.bind_some]
          dsimp only
          rw [if_pos rfl, e3, ra_V, Option.bind_some]
          simp only [mm_ble (show 16 ≤ 77 by omega), Bool.and_self, cond_true, mm_inb_nI (show c < 198 by omega) (by omega), m77, if_neg (show ¬ c = 13 by omega), if_true]
      · refine AA.ref hI (i := 3) (by omega) ?_ (fun Mr hMr => ?_)
        · rw [u_X11_practise]
          (rw [E_hasCook (d + 56) hC.1, ra_I]; simp only [Option.bind_some])
          rw [hk, if_neg (show ¬ mb true = 0 by decide)]
          (rw [E_wristOf (d + 58) M c (by omega), ra_I]; simp only [Option.bind_some])
          rw [if_pos q1, if_neg q2]
          (rw [E_ref3 (d + 57) M, ra_I]; simp only [Option.bind_some])
        · have hCr : CT n xs N gv Mr nc nm := by rw [hMr]; exact hI.ct57
          have r35 : mm_I Mr 35 = mm_I M 35 := by rw [hMr, I_wn (by decide)]
          have r37 : mm_I Mr 37 = mm_I M 37 := by rw [hMr, I_wn (by decide)]
          rw [u_X12_practise]
          (rw [E_isCook (d + 57) hCr.1, ra_I]; simp only [Option.bind_some])
          rw [hk, if_neg (show ¬ mb true = 0 by decide), Int32.zero_add]
          simp only [mm_inb_nI (show c < 198 by omega) (by omega), cond_true, nI_clamp (show c < 2 ^ 31 by omega)]
          rw [(hCr.cm hc).1, r37, if_neg ne9, hCr.b13, r35, if_neg q2, E_isr3 (d + 58) _, ra_I, Option.bind_some]
          dsimp only
          rw [if_neg (by decide)]
    · refine AA.ref hI (i := 2) (by omega) ?_ (fun Mr hMr => ?_)
      · rw [u_X11_practise]
        (rw [E_hasCook (d + 56) hC.1, ra_I]; simp only [Option.bind_some])
        rw [hk, if_neg (show ¬ mb true = 0 by decide)]
        (rw [E_wristOf (d + 58) M c (by omega), ra_I]; simp only [Option.bind_some])
        rw [if_neg q1]
        (rw [E_ref2 (d + 57) M, ra_I]; simp only [Option.bind_some])
      · have hCr : CT n xs N gv Mr nc nm := by rw [hMr]; exact hI.ct57
        have r37 : mm_I Mr 37 = mm_I M 37 := by rw [hMr, I_wn (by decide)]
        rw [bd9_lt w9] at q1
        rw [u_X12_practise]
        (rw [E_isCook (d + 57) hCr.1, ra_I]; simp only [Option.bind_some])
        rw [hk, if_neg (show ¬ mb true = 0 by decide), Int32.zero_add]
        simp only [mm_inb_nI (show c < 198 by omega) (by omega), cond_true, nI_clamp (show c < 2 ^ 31 by omega)]
        rw [(hCr.cm hc).1, r37, if_pos q1, E_isr2 (d + 58) _, ra_I, Option.bind_some]
        dsimp only
        rw [if_neg (by decide)]
end SA
