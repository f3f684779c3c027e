section MJ
variable {n : Nat} {xs : Nat → Int32} {N : Nat} {M M0 M1 : mmM} {T : Nat → Int32} {s t a b p k : Nat} {w c u : List Int32} {L : List (List Int32 × List Int32)}
/-- from a test on, read so far as r says -/
theorem C184s (hN : 1000 ≤ N) (d f : Nat) {e : Option mmR} {r : RL} (hc : CK t L.length M0 M) (h140 : L.length < 140) (hk : MKr M0 (140 * t) 0 L) (h65 : mm_I M0 65 t = nI L.length) (h66 : mm_I M 66 (140 * t + L.length) = nI (fl L).length) {a : Nat} {w : List Int32} (h : SM1 T s t 0 M a w e (appR (fl L) r)) (hs240 : s ≤ 240) : CM1 T s t M0 L ((mm_aV e).bind fun p => lp_X12_clause n xs N (d + 36) (f + 2) 184 [some (.ref 60), some (.int (nI (140 * t + L.length))), some (.int (1 : Int32))] [] p) (tstP T s r) := by
  obtain ⟨q1, q2⟩ := h
  cases r with
  | inl p =>
    obtain ⟨M4, k, e4, x4, h4, b1, b2⟩ := q1 p rfl
    have hc4 := hc.lm x4
    rw [e4, ra_V, Option.bind_some, C184z (d + 36) f (Or.inr (h4.ne (by omega))) h4.2.1 h4.2.2.1 (by rw [hc4.2.2]; exact h65) h140]
    obtain ⟨f1, f2⟩ := fin_F hc4 h140 h4 (x := mm_I M4 66 (140 * t + L.length)) (y := mm_I M4 64 t) (z := nI (L.length + 1))
    exact CM1.l f1 f2 b2
  | inr v =>
    obtain ⟨b, c⟩ := v
    obtain ⟨M4, e4, x4, h4⟩ := q2 b (fl L ++ c) rfl
    rw [e4, ra_V, Option.bind_some]
    exact C184a hN d f (hc.lm x4) h140 h4 hk h65 (by rw [x4.I6 (by omega)]; exact h66)
theorem C129a (hN : 1000 ≤ N) (d f : Nat) (hc : CK t L.length M0 M) (h140 : L.length < 140) (h : MS T s t 0 M b (fl L)) (hk : MKr M0 (140 * t) 0 L) (h65 : mm_I M0 65 t = nI L.length) (h66 : mm_I M 66 (140 * t + L.length) = nI (fl L).length) : CM1 T s t M0 L (lp_X12_clause n xs N (d + 36) (f + 3) 129 [some (.ref 60), some (.int (nI (140 * t + L.length))), some (.int (1 : Int32))] [] M) (tstP T s (conP T s (unitD T s 6) b [])) := by
  have q := E_con0M (n := n) (xs := xs) (N := N) hN d M b (fl L) h
  rw [(AP_con (AP_unitD 6)).nil] at q
  rw [lu_X12_clause_129, if_neg (by decide)]
  exact C184s hN d f hc h140 hk h65 h66 q h.1.1
theorem C129b (hN : 1000 ≤ N) (d f : Nat) (hc : CK t L.length M0 M) (h140 : L.length < 140) (h : MS T s t 0 M b (fl L)) (hk : MKr M0 (140 * t) 0 L) (h65 : mm_I M0 65 t = nI L.length) (h66 : mm_I M 66 (140 * t + L.length) = nI (fl L).length) : CM1 T s t M0 L (lp_X12_clause n xs N (d + 36) (f + 3) 129 [some (.ref 60), some (.int (nI (140 * t + L.length))), some (.int (0 : Int32))] [] M) (match sumD T s 6 b [] with | .inl p => .inl p | .inr v => if isC (cu T s (sk T s v.1)) = true then tstP T s (thenR (thenR (cmpP T s 6 (sk T s v.1) v.2) (andP T s (unitD T s 6))) (orP T s (unitD T s 6))) else .inr (sk T s v.1, [], v.2)) := by
  have hs240 := h.1.1
  have ht := h.2.2.2.2.2.2.1
  obtain ⟨q1, q2⟩ := E_sum0M (n := n) (xs := xs) (N := N) hN (d + 36) (by omega) M b (fl L) h
  rw [(AP_sumD 6).nil] at q1 q2
  dsimp only at q1 q2
  rw [lu_X12_clause_129, if_pos rfl]
  cases hr : sumD T s 6 b [] with
  | inl p =>
    obtain ⟨M4, k, e4, x4, h4, b1, b2⟩ := q1 p (by rw [hr]; rfl)
    have hc4 := hc.lm x4
    rw [e4, ra_V, Option.bind_some, if_neg (h4.ne (by omega)), if_pos rfl, C184z (d + 36) f (Or.inl rfl) h4.2.1 ht (by rw [hc4.2.2]; exact h65) h140]
    obtain ⟨f1, f2⟩ := fin_F hc4 h140 h4 (x := mm_I M4 66 (140 * t + L.length)) (y := mm_I M4 64 t) (z := nI (L.length + 1))
    exact CM1.l f1 f2 b2
  | inr v =>
    obtain ⟨b', u'⟩ := v
    obtain ⟨M4, e4, x4, h4⟩ := q2 b' (fl L ++ u') (by rw [hr]; rfl)
    obtain ⟨M5, e5, x5, h5⟩ := E_lookS (n := n) (xs := xs) (N := N) hN (d + 34) h4
    have hc5 := (hc.lm x4).lm x5
    have h66' : mm_I M5 66 (140 * t + L.length) = nI (fl L).length := by rw [x5.I6 (by omega), x4.I6 (by omega)]; exact h66
    rw [e4, ra_V, Option.bind_some, if_pos h4.2.2.2.1, e5, ra_I, Option.bind_some]
    dsimp only
    rw [E_isSg (d + 35), ra_I, Option.bind_some]
    dsimp only
    cases hC : isC (cu T s (sk T s b')) with
    | false =>
      rw [if_pos (show mb false = 0 by decide), if_pos rfl, if_neg (by decide), C184z (d + 36) f (Or.inl rfl) h5.2.2.2.2.2.1 ht (by rw [hc5.2.2]; exact h65) h140]
      have h6 := h5.w6 67 (140 * t + L.length) (x := mm_I M5 66 (140 * t + L.length)) (by omega)
      have hc6 := hc5.w6 67 (x := mm_I M5 66 (140 * t + L.length)) (by omega) (by omega) h140
      obtain ⟨f1, f2⟩ := fin_ok (c := []) (u := u') hc6 h140 h6 hk (by rw [I_wn (by decide)]; exact h66') (by rw [I_s, if_pos rfl]; exact h66')
      rw [I_wn (show (64 : Nat) ≠ 67 by decide)] at f1 f2
      exact CM1.r f1 f2
    | true =>
      rw [if_neg (show ¬ mb true = 0 by decide), if_neg (show ¬ (1 : Int32) = 0 by decide), if_pos rfl]
      have q := E_rsM (n := n) (xs := xs) (N := N) hN d M5 (sk T s b') (fl L ++ u') h5
      have A1 : AP (fun a w => thenR (thenR (cmpP T s 6 a w) (andP T s (unitD T s 6))) (orP T s (unitD T s 6))) := AP_then (P := fun a w => thenR (cmpP T s 6 a w) (andP T s (unitD T s 6))) (AP_then (AP_cmp 6) (AP_loop (AP_unitD 6) 38 38 240)) (AP_loop (AP_tru (AP_unitD 6)) 124 124 240)
      rw [A1] at q
      have := C184s (n := n) (xs := xs) (N := N) hN d f hc5 h140 hk h65 h66' q hs240
      unfold rsM at this
      rw [aV_bind] at this
      simp only [aV_bind] at this
      exact this
theorem E_clauM (hN : 1000 ≤ N) (d : Nat) (h140 : L.length < 140) (h : MC T s t M a L) : CM1 T s t M L (mm_E n xs N (d + 37) 204 [.ref 60] M) (clauP T s a) := by
  obtain ⟨h, h65, hk⟩ := h
  have hs240 := h.1.1
  have ht := h.2.2.2.2.2.2.1
  have k1 := sk_ge T s a
  have k2 := sk_le (T := T) h.2.2.1
  obtain ⟨f, hf⟩ : ∃ f, N = f + 5 := ⟨N - 5, by omega⟩
  have hfail : ∀ (M' : mmM) (p k g : Nat), LMf t M M' → MFl t M' p k → p ≤ s → CM1 T s t M L (lp_X12_clause n xs N (d + 36) (g + 1) 71 [some (.ref 60), some (.int (nI (140 * t + L.length))), none] [] M') (.inl p) := by
    intro M' p k g x hm hp
    rw [lu_X12_clause_71, if_neg (hm.ne (by omega))]
    exact CM1.l (x.tr LMf.w3).g hm.w3.1 hp
  obtain ⟨M1, e1, x1, h1⟩ := E_lookS (n := n) (xs := xs) (N := N) hN (d + 34) h
  rw [u_X12_clause, h.2.2.2.2.2.1, nI_clamp (by omega), mm_inb_nI (n := 5) ht (by omega), cond_true, if_pos h.2.2.2.1, h65, m140, e1, ra_I, Option.bind_some]
  dsimp only
  rw [show (N : Nat) = f + 5 from hf]
  unfold clauP
  by_cases c1 : cu T s (sk T s a) = 121
  · have l1 := cu_lt c1 (by decide)
    have m1 : mustP T s 121 a [] = .inr (sk T s a + 1, []) := by unfold mustP; rw [if_pos c1]
    have h2 := h1.st l1
    obtain ⟨M3, e3, x3, h3⟩ := E_lookS (n := n) (xs := xs) (N := f + 5) (by omega) (d + 34) h2
    have j1 := sk_ge T s (sk T s a + 1)
    have j2 := sk_le (T := T) (s := s) (a := sk T s a + 1) (by omega)
    rw [m1, if_pos c1, lu_X12_clause_40, if_pos h1.2.2.2.1, h1.2.1, nI_1, e3, ra_I, Option.bind_some]
    show CM1 T s t M L _ (match mustP T s 58 (sk T s a + 1) [] with | .inl p => .inl p | .inr v => clinP T s v.1)
    dsimp only
    have fr := (x1.tr LMf.w3).tr x3
    by_cases c2 : cu T s (sk T s (sk T s a + 1)) = 58
    · have l2 := cu_lt c2 (by decide)
      have m2 : mustP T s 58 (sk T s a + 1) [] = .inr (sk T s (sk T s a + 1) + 1, []) := by unfold mustP; rw [if_pos c2]
      generalize hB : sk T s (sk T s a + 1) = B at *
      rw [m2, if_pos c2, lu_X12_clause_71, if_pos h3.2.2.2.1, h3.2.2.2.2.2.1, nI_clamp (by omega), mm_inb_nI (n := 5) ht (by omega), mm_inb_nI (n := 700) (by omega) (by omega), nI_clamp (by omega), h3.2.1, nI_1, h3.2.2.2.2.2.2.2.1.1]
      have h4 := (h3.st l2).w6 66 (140 * t + L.length) (x := nI (fl L).length) (by omega)
      have hc4 : CK t L.length M (mm_wI (mm_wI M3 60 3 (nI (B + 1))) 66 (140 * t + L.length) (nI (fl L).length)) := ((CK.rf.lm fr).lm LMf.w3).w6 66 (by omega) (by omega) h140
      obtain ⟨M5, e5, x5, h5⟩ := E_lookS (n := n) (xs := xs) (N := f + 5) (by omega) (d + 34) h4
      obtain ⟨M6, e6, x6, h6⟩ := E_lookS (n := n) (xs := xs) (N := f + 5) (by omega) (d + 34) h5
      rw [sk_sk (by omega)] at e6 h6
      have hc5 := hc4.lm x5
      have hc6 := hc5.lm x6
      have g5 : mm_I M5 66 (140 * t + L.length) = nI (fl L).length := by rw [x5.I6 (by omega), I_s, if_pos rfl]
      have g6 : mm_I M6 66 (140 * t + L.length) = nI (fl L).length := by rw [x6.I6 (by omega)]; exact g5
      show CM1 T s t M L ((mm_aI (mm_E n xs (f + 5) (d + 36) 187 [.ref 60] (mm_wI (mm_wI M3 60 3 (nI (B + 1))) 66 (140 * t + L.length) (nI (fl L).length)))).bind _) (clinP T s (B + 1))
      rw [e5, ra_I, Option.bind_some]
      dsimp only
      unfold clinP
      by_cases c3 : cu T s (sk T s (B + 1)) = 33
      · rw [if_pos c3, if_pos (Or.inl c3)]
        exact C129a (by omega) d f hc5 h140 h5 hk h65 g5
      rw [if_neg c3, e6, ra_I, Option.bind_some]
      dsimp only
      by_cases c4 : cu T s (sk T s (B + 1)) = 40
      · rw [if_pos c4, if_pos (Or.inr c4)]
        exact C129a (by omega) d f hc6 h140 h6 hk h65 g6
      · rw [if_neg c4, if_neg (fun q => q.elim c3 c4)]
        exact C129b (by omega) d f hc6 h140 h6 hk h65 g6
    · have m2 : mustP T s 58 (sk T s a + 1) [] = .inl (sk T s (sk T s a + 1)) := by unfold mustP; rw [if_neg c2]
      rw [m2, if_neg c2, E_badS (d + 35) h3, ra_V, Option.bind_some]
      have := hfail _ _ _ (f + 3) (fr.tr LMf.w4) h3.bad j2
      rw [hf] at this
      exact this
  · have m1 : mustP T s 121 a [] = .inl (sk T s a) := by unfold mustP; rw [if_neg c1]
    have hb := h1.bad
    rw [m1, if_neg c1, E_badS (d + 35) h1, ra_V, Option.bind_some, lu_X12_clause_40, if_neg (hb.ne (by omega))]
    have := hfail _ _ _ (f + 3) ((x1.tr LMf.w4).tr (LMf.w3 (x := mm_I (mm_wI M1 60 4 (nI (sk T s a))) 60 3 + 1))) hb.w3 k2
    rw [hf] at this
    exact this
end MJ
