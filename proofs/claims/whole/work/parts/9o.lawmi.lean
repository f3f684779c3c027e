def MC (T : Nat → Int32) (s t : Nat) (M : mmM) (a : Nat) (L : List (List Int32 × List Int32)) : Prop := MS T s t 0 M a (fl L) ∧ mm_I M 65 t = nI L.length ∧ MKr M (140 * t) 0 L
def CM1 (T : Nat → Int32) (s t : Nat) (M : mmM) (L : List (List Int32 × List Int32)) (e : Option mmR) (r : Nat ⊕ (Nat × List Int32 × List Int32)) : Prop := (∀ p, r = .inl p → ∃ M1, e = some (none, M1) ∧ LMg t M M1 ∧ mm_I M1 60 4 = nI p ∧ p ≤ s) ∧ ∀ b c u, r = .inr (b, c, u) → ∃ M1, e = some (none, M1) ∧ LMg t M M1 ∧ MC T s t M1 b (L ++ [(c, u)])
section MI
variable {n : Nat} {xs : Nat → Int32} {N : Nat} {M M0 M1 : mmM} {T : Nat → Int32} {s t a b p k : Nat} {w c u : List Int32} {L : List (List Int32 × List Int32)}
theorem CM1.l {M1 : mmM} (g : LMg t M M1) (h : mm_I M1 60 4 = nI p) (hp : p ≤ s) : CM1 T s t M L (some (none, M1)) (.inl p) := ⟨(fun p q => by cases q; exact ⟨M1, rfl, g, h, hp⟩), (fun a' c u q => by cases q)⟩
theorem CM1.r {M1 : mmM} (g : LMg t M M1) (h : MC T s t M1 b (L ++ [(c, u)])) : CM1 T s t M L (some (none, M1)) (.inr (b, c, u)) := ⟨(fun p q => by cases q), (fun a' c u q => by cases q; exact ⟨M1, rfl, g, h⟩)⟩
theorem m140 (t l : Nat) : (140 : Int32) * nI t + nI l = nI (140 * t + l) := by
  rw [show (140 : Int32) = nI 140 from by decide, ← nI_add, show nI 140 * nI t = nI (140 * t) from (Int32.ofNat_mul 140 t).symm]
theorem C251 (d f : Nat) {l : Nat} (h14 : mm_I M 60 14 = nI t) (ht : t < 5) (h65 : mm_I M 65 t = nI l) (hl : l < 140) : lp_X12_clause n xs N d (f + 1) 251 [some (.ref 60), some (.int (nI (140 * t + l))), none] [] M = some (none, mm_wI (mm_wI M 68 (140 * t + l) (mm_I M 64 t)) 65 t (nI (l + 1))) := by
  rw [lu_X12_clause_251, h14, nI_clamp (by omega), mm_inb_nI (n := 5) ht (by omega), mm_inb_nI (n := 700) (by omega) (by omega), nI_clamp (by omega), h65, nI_1]
  rfl
theorem C184z (d f : Nat) {l : Nat} {y2 : Int32} (hy : y2 = 0 ∨ ¬ mm_I M 60 4 = -1) (h14 : mm_I M 60 14 = nI t) (ht : t < 5) (h65 : mm_I M 65 t = nI l) (hl : l < 140) : lp_X12_clause n xs N d (f + 2) 184 [some (.ref 60), some (.int (nI (140 * t + l))), some (.int y2)] [] M = some (none, mm_wI (mm_wI (mm_wI M 67 (140 * t + l) (mm_I M 66 (140 * t + l))) 68 (140 * t + l) (mm_I M 64 t)) 65 t (nI (l + 1))) := by
  have e := C251 (n := n) (xs := xs) (N := N) (M := mm_wI M 67 (140 * t + l) (mm_I M 66 (140 * t + l))) (t := t) (l := l) d f (by rw [I_wn (by decide)]; exact h14) ht (by rw [I_wn (by decide)]; exact h65) hl
  rw [lu_X12_clause_184, mm_inb_nI (n := 700) (by omega) (by omega), nI_clamp (by omega), e, I_wn (show (64 : Nat) ≠ 67 by decide)]
  by_cases q : y2 = 0
  · rw [if_pos q]; rfl
  · rw [if_neg q, if_neg (hy.resolve_left q)]; rfl
theorem fin_F {l : Nat} (hc : CK t l M0 M) (hl : l < 140) (h : MFl t M p k) {x y z : Int32} : LMg t M0 (mm_wI (mm_wI (mm_wI M 67 (140 * t + l) x) 68 (140 * t + l) y) 65 t z) ∧ mm_I (mm_wI (mm_wI (mm_wI M 67 (140 * t + l) x) 68 (140 * t + l) y) 65 t z) 60 4 = nI p :=
  ⟨((hc.w6 67 (by omega) (by omega) hl).w6 68 (by omega) (by omega) hl).1.tr LMg.w65, by rw [I_wn (by decide), I_wn (by decide), I_wn (by decide)]; exact h.1⟩
theorem fin_ok (hc : CK t L.length M0 M) (h140 : L.length < 140) (h : MS T s t 0 M b (fl L ++ (c ++ u))) (hk : MKr M0 (140 * t) 0 L) (h66 : mm_I M 66 (140 * t + L.length) = nI (fl L).length) (h67 : mm_I M 67 (140 * t + L.length) = nI ((fl L).length + c.length)) : LMg t M0 (mm_wI (mm_wI M 68 (140 * t + L.length) (mm_I M 64 t)) 65 t (nI (L.length + 1))) ∧ MC T s t (mm_wI (mm_wI M 68 (140 * t + L.length) (mm_I M 64 t)) 65 t (nI (L.length + 1))) b (L ++ [(c, u)]) := by
  have h64 := h.2.2.2.2.2.2.2.1.1
  refine ⟨(hc.w6 68 (by omega) (by omega) h140).1.tr LMg.w65, ?_, ?_, ?_⟩
  · rw [fl_snoc]
    exact (h.w6 68 (140 * t + L.length) (by omega)).w6 65 t (by omega)
  · rw [I_s, if_pos rfl, List.length_append, List.length_cons, List.length_nil]
  · refine MKr_snoc (MKr_cg (fun i h1 h2 => ?_) hk) ?_ ?_ ?_
    · obtain ⟨g1, g2, g3⟩ := (hc.w6 68 (x := mm_I M 64 t) (by omega) (by omega) h140).2.1 i (by omega)
      exact ⟨by rw [I_wn (by decide)]; exact g1, by rw [I_wn (by decide)]; exact g2, by rw [I_wn (by decide)]; exact g3⟩
    · rw [I_wn (by decide), I_wn (by decide), h66, Nat.zero_add]
    · rw [I_wn (by decide), I_wn (by decide), h67, Nat.zero_add]
    · rw [I_wn (by decide), I_s, if_pos rfl, h64, Nat.zero_add, List.length_append, List.length_append, Nat.add_assoc]
theorem E_sum0M (hN : 1000 ≤ N) (K : Nat) (hK : 24 ≤ K) : SPM T s t 0 (fun M => mm_E n xs N K 197 [.ref 60] M) (sumD T s 6) := E_sumDM hN 6 K (by omega) (by omega)
theorem E_unit0M (hN : 1000 ≤ N) (K : Nat) (hK : 33 ≤ K) : SPM T s t 0 (fun M => mm_E n xs N K 200 [.ref 60] M) (unitD T s 6) := E_unitDM hN 6 K (by omega) (by omega)
theorem E_con0M (hN : 1000 ≤ N) (d : Nat) : SPM T s t 0 (fun M => mm_E n xs N (d + 36) 203 [.ref 60] M) (conP T s (unitD T s 6)) := E_conM hN 33 (by omega) (LN_unitD 6) (fun K hK => E_unit0M hN K hK) (d + 36) (by omega)
noncomputable def rsM (n : Nat) (xs : Nat → Int32) (N d : Nat) (M : mmM) : Option mmR := (mm_aV (mm_E n xs N (d + 36) 199 [.ref 60] M)).bind fun p10 => (mm_aV (mm_E n xs N (d + 36) 201 [.ref 60] p10)).bind fun p11 => mm_E n xs N (d + 36) 202 [.ref 60] p11
theorem E_rsM (hN : 1000 ≤ N) (d : Nat) : SPM T s t 0 (rsM n xs N d) (fun a w => thenR (thenR (cmpP T s 6 a w) (andP T s (unitD T s 6))) (orP T s (unitD T s 6))) := by
  have h : SPM T s t 0 (rsM n xs N d) (fun a w => thenR (cmpP T s 6 a w) (fun a w => thenR (andP T s (unitD T s 6) a w) (orP T s (unitD T s 6)))) :=
    SPM_bind (LN_cmp 6) (E_cmpKM (n := n) (xs := xs) (N := N) (T := T) (s := s) (t := t) hN 6 (d + 36) (by omega) (by omega)) (SPM_bind LN_andD (E_andM hN 33 (by omega) (LN_unitD 6) (fun K hK => E_unit0M hN K hK) (d + 36) (by omega)) (E_orM hN 33 (by omega) (LN_unitD 6) (fun K hK => E_unit0M hN K hK) (d + 36) (by omega)) (E_goOnOrF (d + 35)) (fun _ => rfl)) (SPF_bind (E_goOnAndF (d + 35)) (E_goOnOrF (d + 35)) (fun _ => rfl)) (fun _ => rfl)
  intro M a w hM
  have := h M a w hM
  dsimp only at this ⊢
  rw [thenR_assoc]
  exact this
/-- behind a test, its sum -/
theorem C184a (hN : 1000 ≤ N) (d f : Nat) (hc : CK t L.length M0 M) (h140 : L.length < 140) (h : MS T s t 0 M b (fl L ++ c)) (hk : MKr M0 (140 * t) 0 L) (h65 : mm_I M0 65 t = nI L.length) (h66 : mm_I M 66 (140 * t + L.length) = nI (fl L).length) : CM1 T s t M0 L (lp_X12_clause n xs N (d + 36) (f + 2) 184 [some (.ref 60), some (.int (nI (140 * t + L.length))), some (.int (1 : Int32))] [] M) (tstP T s (.inr (b, c))) := by
  have ht := h.2.2.2.2.2.2.1
  have k1 := sk_ge T s b
  have k2 := sk_le (T := T) h.2.2.1
  have hs240 := h.1.1
  have hc1 := hc.w6 67 (x := nI (fl L).length) (by omega) (by omega) h140
  have h1 := h.w6 67 (140 * t + L.length) (x := nI (fl L).length) (by omega)
  obtain ⟨M2, e2, x2, h2⟩ := E_lookS (n := n) (xs := xs) (N := N) hN (d + 34) h1
  have hc2 := hc1.lm x2
  rw [lu_X12_clause_184, mm_inb_nI (n := 700) (by omega) (by omega), nI_clamp (by omega), if_neg (by decide), if_pos h.2.2.2.1, h66, e2, ra_I, Option.bind_some]
  show CM1 T s t M0 L (if cu T s (sk T s b) = 63 then _ else _) (match thenR (mustP T s 63 b []) (sumD T s 6) with | .inl p => .inl p | .inr v => .inr (v.1, c, v.2))
  unfold mustP
  by_cases q : cu T s (sk T s b) = 63
  · have hlt := cu_lt q (by decide)
    rw [if_pos q, if_pos q, h2.2.2.2.2.2.1, nI_clamp (by omega), mm_inb_nI (n := 5) ht (by omega), h2.2.1, h2.2.2.2.2.2.2.2.1.1, nI_1]
    have h3 := (h2.st hlt).w6 67 (140 * t + L.length) (x := nI (fl L ++ c).length) (by omega)
    have hc3 := (hc2.lm (LMf.w3 (x := nI (sk T s b + 1)))).w6 67 (x := nI (fl L ++ c).length) (by omega) (by omega) h140
    obtain ⟨q1, q2⟩ := E_sum0M (n := n) (xs := xs) (N := N) hN (d + 36) (by omega) _ _ _ h3
    rw [(AP_sumD 6).nil] at q1 q2
    dsimp only at q1 q2
    show CM1 T s t M0 L ((mm_aV (mm_E n xs N (d + 36) 197 [.ref 60] (mm_wI (mm_wI M2 60 3 (nI (sk T s b + 1))) 67 (140 * t + L.length) (nI (fl L ++ c).length)))).bind fun p21 => lp_X12_clause n xs N (d + 36) (f + 1) 251 [some (.ref 60), some (.int (nI (140 * t + L.length))), none] [] p21) (match sumD T s 6 (sk T s b + 1) [] with | .inl p => .inl p | .inr v => .inr (v.1, c, v.2))
    cases hr : sumD T s 6 (sk T s b + 1) [] with
    | inl p =>
      obtain ⟨M4, k, e4, x4, h4, b1, b2⟩ := q1 p (by rw [hr]; rfl)
      have hc4 := hc3.lm x4
      rw [e4, ra_V, Option.bind_some, C251 (d + 36) f h4.2.1 ht (by rw [hc4.2.2]; exact h65) h140]
      exact CM1.l ((hc4.w6 68 (by omega) (by omega) h140).1.tr LMg.w65) (by rw [I_wn (by decide), I_wn (by decide)]; exact h4.1) b2
    | inr v =>
      obtain ⟨b', u'⟩ := v
      obtain ⟨M4, e4, x4, h4⟩ := q2 b' (fl L ++ c ++ u') (by rw [hr]; rfl)
      have hc4 := hc3.lm x4
      rw [List.append_assoc] at h4
      rw [e4, ra_V, Option.bind_some, C251 (d + 36) f h4.2.2.2.2.2.1 ht (by rw [hc4.2.2]; exact h65) h140]
      obtain ⟨f1, f2⟩ := fin_ok hc4 h140 h4 hk (by rw [x4.I6 (by omega), I_wn (by decide), I_wn (by decide), x2.I6 (by omega), I_wn (by decide)]; exact h66) (by rw [x4.I6 (by omega), I_s, if_pos rfl, List.length_append])
      exact CM1.r f1 f2
  · rw [if_neg q, if_neg q, E_badS (d + 35) h2, ra_V, Option.bind_some]
    exact CM1.l (hc2.1.tr LMf.w4.g) (by rw [I_s, if_pos rfl]) k2
end MI
