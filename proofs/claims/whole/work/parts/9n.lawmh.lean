/-! a clause, and all of them, by the reference -/
def LMg (t : Nat) (M M' : mmM) : Prop := M'.1 = M.1 ∧ M'.2.1 = M.2.1 ∧ M'.2.2.1 = M.2.2.1 ∧ mm_J M' = mm_J M ∧ M'.2.2.2.2.2 = M.2.2.2.2.2 ∧ (∀ b, b ≠ 60 → (b < 62 ∨ 68 < b) → mm_I M' b = mm_I M b) ∧ (∀ q, q ≠ 3 → q ≠ 4 → q ≠ 5 → mm_I M' 60 q = mm_I M 60 q) ∧ (∀ k, (k < 520 * t ∨ 520 * t + 520 ≤ k) → mm_I M' 62 k = mm_I M 62 k ∧ mm_I M' 63 k = mm_I M 63 k) ∧ (∀ q, q ≠ t → mm_I M' 64 q = mm_I M 64 q ∧ mm_I M' 65 q = mm_I M 65 q) ∧ ∀ k, (k < 140 * t ∨ 140 * t + 140 ≤ k) → mm_I M' 66 k = mm_I M 66 k ∧ mm_I M' 67 k = mm_I M 67 k ∧ mm_I M' 68 k = mm_I M 68 k
def fl : List (List Int32 × List Int32) → List Int32
  | [] => []
  | q :: r => q.1 ++ (q.2 ++ fl r)
def MKr (M : mmM) : Nat → Nat → List (List Int32 × List Int32) → Prop
  | _, _, [] => True
  | q, a, v :: r => mm_I M 66 q = nI a ∧ mm_I M 67 q = nI (a + v.1.length) ∧ mm_I M 68 q = nI (a + v.1.length + v.2.length) ∧ MKr M (q + 1) (a + v.1.length + v.2.length) r
theorem fl_snoc : ∀ (L : List (List Int32 × List Int32)) (c u : List Int32), fl (L ++ [(c, u)]) = fl L ++ (c ++ u)
  | [], c, u => by show c ++ (u ++ []) = [] ++ (c ++ u); rw [List.append_nil]; rfl
  | q :: L, c, u => by
    show q.1 ++ (q.2 ++ fl (L ++ [(c, u)])) = q.1 ++ (q.2 ++ fl L) ++ (c ++ u)
    rw [fl_snoc L c u]
    simp only [List.append_assoc]
theorem MKr_cg {M M' : mmM} : ∀ {L : List (List Int32 × List Int32)} {q a : Nat}, (∀ i, q ≤ i → i < q + L.length → mm_I M' 66 i = mm_I M 66 i ∧ mm_I M' 67 i = mm_I M 67 i ∧ mm_I M' 68 i = mm_I M 68 i) → MKr M q a L → MKr M' q a L
  | [], _, _, _, _ => trivial
  | v :: r, q, a, h, hr => by
    obtain ⟨g1, g2, g3⟩ := h q (Nat.le_refl _) (by rw [List.length_cons]; omega)
    obtain ⟨r1, r2, r3, r4⟩ := hr
    exact ⟨g1.trans r1, g2.trans r2, g3.trans r3, MKr_cg (fun i h1 h2 => h i (by omega) (by rw [List.length_cons]; omega)) r4⟩
theorem MKr_snoc {M : mmM} {c u : List Int32} : ∀ {L : List (List Int32 × List Int32)} {q a : Nat}, MKr M q a L → mm_I M 66 (q + L.length) = nI (a + (fl L).length) → mm_I M 67 (q + L.length) = nI (a + (fl L).length + c.length) → mm_I M 68 (q + L.length) = nI (a + (fl L).length + c.length + u.length) → MKr M q a (L ++ [(c, u)])
  | [], q, a, _, h1, h2, h3 => ⟨h1, h2, h3, trivial⟩
  | v :: r, q, a, ⟨r1, r2, r3, r4⟩, h1, h2, h3 => by
    have e1 : q + (v :: r).length = q + 1 + r.length := by rw [List.length_cons]; omega
    have e2 : a + (fl (v :: r)).length = a + v.1.length + v.2.length + (fl r).length := by
      show a + (v.1 ++ (v.2 ++ fl r)).length = _
      rw [List.length_append, List.length_append]; omega
    rw [e1, e2] at h1 h2 h3
    exact ⟨r1, r2, r3, MKr_snoc r4 h1 h2 h3⟩
theorem RTk_app {g h : Nat → Int32} : ∀ {a b : List Int32} {p : Nat}, RTk g h p (a ++ b) → RTk g h p a ∧ RTk g h (p + a.length) b
  | [], _, _, h => ⟨trivial, h⟩
  | t :: a, b, p, hh => by
    obtain ⟨h1, h2⟩ := hh
    obtain ⟨h3, h4⟩ := RTk_app (a := a) h2
    exact ⟨⟨h1, h3⟩, by rw [List.length_cons, show p + (a.length + 1) = p + 1 + a.length from by omega]; exact h4⟩
/-- the law's marks and signs, apart, are the law's rows -/
theorem MKr_RML {M : mmM} {t : Nat} : ∀ {L : List (List Int32 × List Int32)} {q a : Nat}, MKr M q a L → RTk (mm_I M 62) (mm_I M 63) (520 * t + a) (fl L) → a + (fl L).length ≤ 520 → RML M t q L
  | [], _, _, _, _, _ => trivial
  | v :: r, q, a, ⟨r1, r2, r3, r4⟩, h, hb => by
    have e2 : (fl (v :: r)).length = v.1.length + (v.2.length + (fl r).length) := by
      show (v.1 ++ (v.2 ++ fl r)).length = _
      rw [List.length_append, List.length_append]
    obtain ⟨s1, s2⟩ := RTk_app (a := v.1) (b := v.2 ++ fl r) h
    obtain ⟨s3, s4⟩ := RTk_app (a := v.2) (b := fl r) s2
    refine ⟨⟨a, a + v.1.length, a + v.1.length + v.2.length, r1, r2, r3, rfl, rfl, by omega, s1, ?_⟩, MKr_RML (a := a + v.1.length + v.2.length) r4 ?_ (by omega)⟩
    · rw [show 520 * t + (a + v.1.length) = 520 * t + a + v.1.length by omega]; exact s3
    · rw [show 520 * t + (a + v.1.length + v.2.length) = 520 * t + a + v.1.length + v.2.length by omega]; exact s4
section MH
variable {n : Nat} {xs : Nat → Int32} {N : Nat} {M M0 M' M1 M2 : mmM} {T : Nat → Int32} {s t D a b p k l : Nat} {w : List Int32}
theorem LMg.rf : LMg t M M := ⟨rfl, rfl, rfl, rfl, rfl, fun _ _ _ => rfl, fun _ _ _ _ => rfl, fun _ _ => ⟨rfl, rfl⟩, fun _ _ => ⟨rfl, rfl⟩, fun _ _ => ⟨rfl, rfl, rfl⟩⟩
theorem LMg.tr (h : LMg t M M1) (g : LMg t M1 M2) : LMg t M M2 := by
  obtain ⟨h1, h2, h3, h4, h5, h6, h7, h8, h9, h10⟩ := h
  obtain ⟨g1, g2, g3, g4, g5, g6, g7, g8, g9, g10⟩ := g
  exact ⟨g1.trans h1, g2.trans h2, g3.trans h3, g4.trans h4, g5.trans h5, fun b b1 b2 => (g6 b b1 b2).trans (h6 b b1 b2), fun q q1 q2 q3 => (g7 q q1 q2 q3).trans (h7 q q1 q2 q3), fun k hk => ⟨(g8 k hk).1.trans (h8 k hk).1, (g8 k hk).2.trans (h8 k hk).2⟩, fun q hq => ⟨(g9 q hq).1.trans (h9 q hq).1, (g9 q hq).2.trans (h9 q hq).2⟩, fun k hk => ⟨(g10 k hk).1.trans (h10 k hk).1, (g10 k hk).2.1.trans (h10 k hk).2.1, (g10 k hk).2.2.trans (h10 k hk).2.2⟩⟩
theorem LMf.g (h : LMf t M M1) : LMg t M M1 := by
  obtain ⟨h1, h2, h3, h4, h5, h6, h7, h8, h9⟩ := h
  exact ⟨h1, h2, h3, h4, h5, fun b b1 b2 => h6 b b1 (by omega) (by omega) (by omega), h7, h8, fun q hq => ⟨h9 q hq, by rw [h6 65 (by decide) (by decide) (by decide) (by decide)]⟩, fun k _ => ⟨by rw [h6 66 (by decide) (by decide) (by decide) (by decide)], by rw [h6 67 (by decide) (by decide) (by decide) (by decide)], by rw [h6 68 (by decide) (by decide) (by decide) (by decide)]⟩⟩
theorem LMg.w6 (c i : Nat) {x : Int32} (hc : 66 ≤ c) (hc2 : c ≤ 68) (hi : 140 * t ≤ i) (hi2 : i < 140 * t + 140) : LMg t M (mm_wI M c i x) := by
  refine ⟨rfl, rfl, rfl, rfl, rfl, fun b _ b2 => I_wn (by omega), fun q _ _ _ => by rw [I_wn (by omega)], fun k _ => ⟨by rw [I_wn (by omega)], by rw [I_wn (by omega)]⟩, fun q _ => ⟨by rw [I_wn (by omega)], by rw [I_wn (by omega)]⟩, fun k hk => ?_⟩
  have hk' : k ≠ i := by omega
  obtain rfl | rfl | rfl : c = 66 ∨ c = 67 ∨ c = 68 := by omega
  · exact ⟨by rw [I_s, if_neg hk'], by rw [I_wn (by decide)], by rw [I_wn (by decide)]⟩
  · exact ⟨by rw [I_wn (by decide)], by rw [I_s, if_neg hk'], by rw [I_wn (by decide)]⟩
  · exact ⟨by rw [I_wn (by decide)], by rw [I_wn (by decide)], by rw [I_s, if_neg hk']⟩
theorem LMg.w65 {x : Int32} : LMg t M (mm_wI M 65 t x) := ⟨rfl, rfl, rfl, rfl, rfl, fun b _ b2 => I_wn (by omega), fun q _ _ _ => by rw [I_wn (by omega)], fun k _ => ⟨by rw [I_wn (by omega)], by rw [I_wn (by omega)]⟩, fun q hq => ⟨by rw [I_wn (by omega)], by rw [I_s, if_neg hq]⟩, fun k hk => ⟨by rw [I_wn (by omega)], by rw [I_wn (by omega)], by rw [I_wn (by omega)]⟩⟩
theorem MS.w6 (h : MS T s t D M a w) (c i : Nat) {x : Int32} (hc : 65 ≤ c) : MS T s t D (mm_wI M c i x) a w := by
  obtain ⟨⟨t1, t2, t3⟩, h2, h3, h4, h5, h6, h7, h8, h9⟩ := h
  have e : mm_I (mm_wI M c i x) 60 = mm_I M 60 := I_wn (by omega)
  exact ⟨⟨t1, by rw [e]; exact t2, by rw [I_wn (by omega)]; exact t3⟩, by rw [e]; exact h2, h3, by rw [e]; exact h4, by rw [e]; exact h5, by rw [e]; exact h6, h7, h8.cg (I_wn (by omega)) (I_wn (by omega)) (I_wn (by omega)), h9⟩
theorem MFl.w6 (h : MFl t M p k) (c i : Nat) {x : Int32} (hc : 65 ≤ c) : MFl t (mm_wI M c i x) p k := by
  obtain ⟨b1, b2, b3, b4⟩ := h
  exact ⟨by rw [I_wn (by omega)]; exact b1, by rw [I_wn (by omega)]; exact b2, b3, by rw [I_wn (by omega)]; exact b4⟩
/-- so far in the l-th clause: the marks of the clauses before stand -/
def CK (t l : Nat) (M0 M : mmM) : Prop := LMg t M0 M ∧ (∀ i, i < 140 * t + l → mm_I M 66 i = mm_I M0 66 i ∧ mm_I M 67 i = mm_I M0 67 i ∧ mm_I M 68 i = mm_I M0 68 i) ∧ mm_I M 65 = mm_I M0 65
theorem CK.rf : CK t l M M := ⟨LMg.rf, fun _ _ => ⟨rfl, rfl, rfl⟩, rfl⟩
theorem CK.lm (h : CK t l M0 M) (g : LMf t M M1) : CK t l M0 M1 := by
  have g6 := g.2.2.2.2.2.1
  refine ⟨h.1.tr g.g, fun i hi => ?_, ?_⟩
  · rw [g6 66 (by decide) (by decide) (by decide) (by decide), g6 67 (by decide) (by decide) (by decide) (by decide), g6 68 (by decide) (by decide) (by decide) (by decide)]
    exact h.2.1 i hi
  · rw [g6 65 (by decide) (by decide) (by decide) (by decide)]; exact h.2.2
theorem CK.w6 (h : CK t l M0 M) (c : Nat) {x : Int32} (hc : 66 ≤ c) (hc2 : c ≤ 68) (hl : l < 140) : CK t l M0 (mm_wI M c (140 * t + l) x) := by
  refine ⟨h.1.tr (LMg.w6 c (140 * t + l) hc hc2 (by omega) (by omega)), fun i hi => ?_, ?_⟩
  · obtain ⟨g1, g2, g3⟩ := h.2.1 i hi
    have hk' : i ≠ 140 * t + l := by omega
    obtain rfl | rfl | rfl : c = 66 ∨ c = 67 ∨ c = 68 := by omega
    · exact ⟨by rw [I_s, if_neg hk']; exact g1, by rw [I_wn (by decide)]; exact g2, by rw [I_wn (by decide)]; exact g3⟩
    · exact ⟨by rw [I_wn (by decide)]; exact g1, by rw [I_s, if_neg hk']; exact g2, by rw [I_wn (by decide)]; exact g3⟩
    · exact ⟨by rw [I_wn (by decide)]; exact g1, by rw [I_wn (by decide)]; exact g2, by rw [I_s, if_neg hk']; exact g3⟩
  · rw [I_wn (by omega)]; exact h.2.2
theorem LMf.I6 (g : LMf t M M1) {c : Nat} (hc : 65 ≤ c) : mm_I M1 c = mm_I M c := g.2.2.2.2.2.1 c (by omega) (by omega) (by omega) (by omega)
end MH
