/-! the model tries every row -/
def tbI (M : mmM) (x1 x2 x3 : Int32) : Prop := ¬ x3 ≤ mm_I M 60 36 ∨ (x3 = mm_I M 60 36 ∧ (0 < mm_I M 77 8 - mm_I M 60 37 ∨ (mm_I M 77 8 - mm_I M 60 37 = 0 ∧ (x1 < mm_I M 60 38 ∨ (x1 = mm_I M 60 38 ∧ ¬ mm_I M 60 35 ≤ x2)))))
def tbU (M : mmM) (x1 x2 x3 : Int32) : mmM := mm_wI (mm_wI (mm_wI (mm_wI M 60 35 x2) 60 36 x3) 60 37 (mm_I M 77 8)) 60 38 x1
section TR
variable {n : Nat} {xs : Nat → Int32} {N : Nat} {M M' : mmM} {nc nm : Nat}
theorem tr_no (d : Nat) {x1 x2 x3 : Int32} (h : ¬ tbI M x1 x2 x3) : mm_E n xs N (d + 1) 271 [.ref 60, .int x1, .int x2, .int x3] M = (mm_aV (mm_E n xs N d 261 [.ref 60, .int x1] M)).bind fun p => lp_X12_tryRow n xs N d N 117 [some (.ref 60), some (.int x1), some (.int x2), some (.int x3), none, some (.int 0)] [] p := by
  rw [u_X12_tryRow]
  unfold tbI at h
  simp only [c10, c00, if_true, if_false]
  by_cases q1 : x3 ≤ mm_I M 60 36
  · rw [if_pos q1]
    by_cases q2 : x3 = mm_I M 60 36
    · rw [if_pos q2]
      by_cases q3 : 0 < mm_I M 77 8 - mm_I M 60 37
      · exact absurd (Or.inr ⟨q2, Or.inl q3⟩) h
      · rw [if_neg q3]
        by_cases q4 : mm_I M 77 8 - mm_I M 60 37 = 0
        · rw [if_pos q4]
          by_cases q5 : x1 < mm_I M 60 38
          · exact absurd (Or.inr ⟨q2, Or.inr ⟨q4, Or.inl q5⟩⟩) h
          · rw [if_neg q5]
            by_cases q6 : x1 = mm_I M 60 38
            · rw [if_pos q6]
              by_cases q7 : mm_I M 60 35 ≤ x2
              · rw [if_pos q7]
              · exact absurd (Or.inr ⟨q2, Or.inr ⟨q4, Or.inr ⟨q6, q7⟩⟩⟩) h
            · rw [if_neg q6]
        · rw [if_neg q4]
    · rw [if_neg q2]
  · exact absurd (Or.inl q1) h
theorem tr_yes (d : Nat) {x1 x2 x3 : Int32} (h : tbI M x1 x2 x3) : mm_E n xs N (d + 1) 271 [.ref 60, .int x1, .int x2, .int x3] M = (mm_aV (mm_E n xs N d 261 [.ref 60, .int x1] (tbU M x1 x2 x3))).bind fun p => lp_X12_tryRow n xs N d N 117 [some (.ref 60), some (.int x1), some (.int x2), some (.int x3), none, some (.int 0)] [] p := by
  rw [u_X12_tryRow]
  unfold tbI at h
  unfold tbU
  simp only [c10, c00, if_true, if_false]
  by_cases q1 : x3 ≤ mm_I M 60 36
  · rw [if_pos q1]
    rcases h with h | ⟨q2, h⟩
    · exact absurd q1 h
    rw [if_pos q2]
    by_cases q3 : 0 < mm_I M 77 8 - mm_I M 60 37
    · rw [if_pos q3]
    · rw [if_neg q3]
      rcases h with h | ⟨q4, h⟩
      · exact absurd h q3
      rw [if_pos q4]
      by_cases q5 : x1 < mm_I M 60 38
      · rw [if_pos q5]
      · rw [if_neg q5]
        rcases h with h | ⟨q6, q7⟩
        · exact absurd h q5
        rw [if_pos q6, if_neg q7]
  · rw [if_neg q1, if_neg (show ¬ x3 = mm_I M 60 36 from fun w => q1 (by rw [w]; exact Int32.le_refl _))]
/-- what trying leaves as it was -/
def KB (k : Nat) (M M' : mmM) : Prop := M'.1 = M.1 ∧ M'.2.1 = M.2.1 ∧ M'.2.2.1 = M.2.2.1 ∧ M'.2.2.2.2.1 = M.2.2.2.2.1 ∧ M'.2.2.2.2.2 = M.2.2.2.2.2 ∧ (∀ b, b ≠ 60 → b ≠ 80 → mm_I M' b = mm_I M b) ∧ (∀ q, q < 35 ∨ 38 < q → mm_I M' 60 q = mm_I M 60 q) ∧ ∀ x, x < 17 * k → mm_I M' 80 x = mm_I M 80 x
theorem KB.rf {k : Nat} : KB k M M := ⟨rfl, rfl, rfl, rfl, rfl, fun _ _ _ => rfl, fun _ _ => rfl, fun _ _ => rfl⟩
theorem KB.tr {k : Nat} {M1 M2 M3 : mmM} (h : KB k M1 M2) (g : KB k M2 M3) : KB k M1 M3 := ⟨g.1.trans h.1, g.2.1.trans h.2.1, g.2.2.1.trans h.2.2.1, g.2.2.2.1.trans h.2.2.2.1, g.2.2.2.2.1.trans h.2.2.2.2.1, fun b h1 h2 => (g.2.2.2.2.2.1 b h1 h2).trans (h.2.2.2.2.2.1 b h1 h2), fun q hq => (g.2.2.2.2.2.2.1 q hq).trans (h.2.2.2.2.2.2.1 q hq), fun x hx => (g.2.2.2.2.2.2.2 x hx).trans (h.2.2.2.2.2.2.2 x hx)⟩
theorem KB.dn {k : Nat} (h : KB (k + 1) M M') : KB k M M' := ⟨h.1, h.2.1, h.2.2.1, h.2.2.2.1, h.2.2.2.2.1, h.2.2.2.2.2.1, h.2.2.2.2.2.2.1, fun x hx => h.2.2.2.2.2.2.2 x (by omega)⟩
theorem KB.I {k b : Nat} (h : KB k M M') (h1 : b ≠ 60) (h2 : b ≠ 80) : mm_I M' b = mm_I M b := h.2.2.2.2.2.1 b h1 h2
theorem KB.fr {k : Nat} (h : KB k M M') : FR M M' := ⟨h.1, h.2.1, h.2.2.1, h.2.2.2.2.1, fun b hb => h.I (scr_ne hb rfl) (scr_ne hb rfl), fun k _ => by rw [h.I (by decide) (by decide)], fun q _ hq => h.2.2.2.2.2.2.1 q hq, fun a ha => by rw [h.I (by omega) (by omega)], h.2.2.2.1⟩
theorem KB_U {k : Nat} {x1 x2 x3 : Int32} : KB k M (tbU M x1 x2 x3) := by
  unfold tbU
  refine ⟨rfl, rfl, rfl, rfl, rfl, fun b h1 _ => ?_, fun q hq => ?_, fun x _ => ?_⟩
  · rw [I_wn h1, I_wn h1, I_wn h1, I_wn h1]
  · simp only [I_w, if_true, if_neg (show ¬ q = 38 by omega), if_neg (show ¬ q = 37 by omega), if_neg (show ¬ q = 36 by omega), if_neg (show ¬ q = 35 by omega)]
  · rw [I_wn (by decide), I_wn (by decide), I_wn (by decide), I_wn (by decide)]
theorem KB_put {k : Nat} (h : S1 80 M M') (g : ∀ x, x < 17 * k → mm_I M' 80 x = mm_I M 80 x) : KB k M M' := ⟨h.1, h.2.1, h.2.2.1, h.2.2.2.1, h.2.2.2.2.1, fun b _ h2 => h.I h2, fun q _ => by rw [h.I (by decide)], g⟩
/-- the best so far -/
def HB (st0 : Nat) (f : Nat → Nat → Nat) (M : mmM) (br bs : Nat) : Prop := mm_I M 60 35 = nI br ∧ mm_I M 60 36 = nI (bsum (f 1) bs) ∧ mm_I M 60 37 = nI (st0 - bsum (f 3) bs) ∧ mm_I M 60 38 = nI (pcs bs)
/-- told, and the row of now behind the set s -/
def DM (nc nm i0 st0 : Nat) (f : Nat → Nat → Nat) (r0 : Nat → Int32) (M : mmM) (s : Nat) : Prop := RT M nc nm ∧ (∀ m w, m < nm → 1 ≤ w → w < 4 → mm_I M 76 (4 * m + w) = nI (f w m)) ∧ mm_I M 77 8 = nI (st0 - bsum (f 3) s) ∧ mm_I M 77 10 = nI (i0 ||| s) ∧ ∀ k, 17 ≤ k → mm_I M 77 k = r0 k
theorem RT.kb {k : Nat} (h : RT M nc nm) (s : KB k M M') : RT M' nc nm := h.mv (by rw [s.I (by decide) (by decide)]) (s.I (by decide) (by decide)) (s.2.2.2.2.2.2.1 25 (by omega)) (s.2.2.2.2.2.2.1 26 (by omega)) (s.I (by decide) (by decide)) (s.I (by decide) (by decide)) (s.I (by decide) (by decide)) (s.I (by decide) (by decide))
variable {i0 st0 : Nat} {f : Nat → Nat → Nat} {r0 : Nat → Int32}
theorem DM.kb {k s : Nat} (h : DM nc nm i0 st0 f r0 M s) (g : KB k M M') : DM nc nm i0 st0 f r0 M' s := by
  obtain ⟨h1, h2, h3, h4, h5⟩ := h
  have e76 : mm_I M' 76 = mm_I M 76 := g.I (by decide) (by decide)
  have e77 : mm_I M' 77 = mm_I M 77 := g.I (by decide) (by decide)
  refine ⟨h1.kb g, ?_, ?_, ?_, ?_⟩
  · rw [e76]; exact h2
  · rw [e77]; exact h3
  · rw [e77]; exact h4
  · rw [e77]; exact h5
/-- the bounds of all that is told -/
def BF (nm i0 st0 : Nat) (f : Nat → Nat → Nat) : Prop := nm ≤ 7 ∧ i0 < 128 ∧ st0 ≤ 99 ∧ ∀ w m, f w m ≤ 40
theorem or128 {a b : Nat} (ha : a < 128) (hb : b < 128) : a ||| b < 128 := Nat.or_lt_two_pow (n := 7) ha hb
theorem E_cfT (hb : BF nm i0 st0 f) {s : Nat} (hs : s < 128) (h : DM nc nm i0 st0 f r0 M s) (d : Nat) {m : Nat} (hm : m < nm) : mm_E n xs N (d + 2) 235 [.ref 60, .int (nI m)] M = some (some (.int (mb (!(i0 ||| s).testBit m && decide (f 2 m ≤ st0 - bsum (f 3) s)))), M) := by
  obtain ⟨b7, bi, bst, bf⟩ := hb
  obtain ⟨h1, h2, h3, h4, h5⟩ := h
  have hos := or128 bi hs
  have f2 := bf 2 m
  rw [u_X12_canFold, h4]
  (rw [E_has d M _ m, ra_I]; simp only [Option.bind_some])
  rw [ib_tb (by omega) (by omega)]
  cases (i0 ||| s).testBit m with
  | true => rfl
  | false =>
    rw [if_pos (show mb false = 0 by decide)]
    (rw [(show mm_E n xs N (d + 1) 221 [.ref 60, .int (nI m), .int 2] M = _ from E_of d M m 2 (by omega) (by omega)), ra_I]; simp only [Option.bind_some])
    rw [h2 m 2 hm (by omega) (by omega), h3]
    by_cases q : f 2 m ≤ st0 - bsum (f 3) s
    · rw [if_neg (nI_nlt q (by omega)), decide_eq_true q]; rfl
    · rw [if_pos (nI_lt (by omega) (by omega)), decide_eq_false q]; rfl
theorem held_nsub {a c : Nat} (ha : a ≤ 99) (hc : c ≤ 1000) : i_max 0 (i_min 99 (nI a - nI c)) = nI (a - c) := by
  have e : i_max 0 (nI c) = nI c := by
    have := i_max0 (a := c) (b := 0) (by omega) (by omega)
    rwa [show nI 0 = (0 : Int32) from rfl, Int32.sub_zero, Nat.sub_zero] at this
  have := held_sub ha (nI c)
  rw [e] at this
  rw [this, i_max0 (by omega) (by omega)]
theorem E_foldT (hb : BF nm i0 st0 f) {s : Nat} (hs : s < 128) (h : DM nc nm i0 st0 f r0 M s) (d : Nat) {m : Nat} (hm : m < nm) (hsm : s.testBit m = false) : ∃ M1, mm_E n xs N (d + 3) 236 [.ref 60, .int (nI m)] M = some (none, M1) ∧ S1 77 M M1 ∧ DM nc nm i0 st0 f r0 M1 (s ||| 2 ^ m) := by
  obtain ⟨b7, bi, bst, bf⟩ := hb
  obtain ⟨h1, h2, h3, h4, h5⟩ := h
  have f3 := bf 3 m
  have e10 : mm_I M 77 10 ||| ((1 : Int32) <<< (nI m &&& 31)) = nI (i0 ||| (s ||| 2 ^ m)) := by
    rw [h4, shl1 (by omega), nI_or, Nat.or_assoc]
  have s1 : S1 77 M (mm_wI M 77 10 (nI (i0 ||| (s ||| 2 ^ m)))) := S1.wI
  have s2 : S1 77 M (mm_wI (mm_wI M 77 10 (nI (i0 ||| (s ||| 2 ^ m)))) 77 8 (nI (st0 - bsum (f 3) s - f 3 m))) := s1.tr S1.wI
  refine ⟨_, ?_, s2, h1.s1 s2 (by omega), ?_, ?_, ?_, ?_⟩
  · rw [u_X12_foldNow, e10]
    (rw [(show mm_E n xs N (d + 2) 221 [.ref 60, .int (nI m), .int 3] _ = _ from E_of (d + 1) _ m 3 (by omega) (by omega)), ra_I]; simp only [Option.bind_some])
    rw [s1.I (show 76 ≠ 77 by decide), h2 m 3 hm (by omega) (by omega), h3]
    (rw [E_held d _ _, ra_I]; simp only [Option.bind_some])
    rw [held_nsub (by omega) (by omega)]
  · rw [s2.I (by decide)]; exact h2
  · rw [I_w, if_pos rfl, if_pos rfl, bsum_add (by omega) hsm, Nat.sub_sub]
  · rw [I_w, if_pos rfl, if_neg (by decide), I_w, if_pos rfl, if_pos rfl]
  · intro k hk
    rw [I_w, if_pos rfl, if_neg (by omega), I_w, if_pos rfl, if_neg (by omega)]
    exact h5 k hk
/-- back to the row put aside -/
theorem KB_step {k s : Nat} {M1 M2 M3 M4 : mmM} (hp : ∀ i, i < 17 → mm_I M1 80 (17 * k + i) = mm_I M1 77 i) (h1 : ∀ i, 17 ≤ i → mm_I M1 77 i = r0 i) (s2 : S1 77 M1 M2) (h2 : DM nc nm i0 st0 f r0 M2 s) (s3 : KB (k + 1) M2 M3) (s4 : S1 77 M3 M4) (r4 : mm_I M4 77 = fun i => if i < 17 then mm_I M3 80 (17 * k + i) else mm_I M3 77 i) : KB (k + 1) M1 M4 := by
  have e80 : mm_I M4 80 = mm_I M3 80 := s4.I (by decide)
  have e80' : mm_I M2 80 = mm_I M1 80 := s2.I (by decide)
  refine ⟨s4.1.trans (s3.1.trans s2.1), s4.2.1.trans (s3.2.1.trans s2.2.1), s4.2.2.1.trans (s3.2.2.1.trans s2.2.2.1), s4.2.2.2.1.trans (s3.2.2.2.1.trans s2.2.2.2.1), s4.2.2.2.2.1.trans (s3.2.2.2.2.1.trans s2.2.2.2.2.1), fun b hb hb' => ?_, fun q hq => ?_, fun x hx => ?_⟩
  · by_cases h77 : b = 77
    · subst h77
      rw [r4]
      funext i
      by_cases hi : i < 17
      · rw [if_pos hi, s3.2.2.2.2.2.2.2 _ (by omega), e80', hp i hi]
      · rw [if_neg hi, s3.I (by decide) (by decide), h2.2.2.2.2 i (by omega), h1 i (by omega)]
    · rw [s4.I h77, s3.I hb hb', s2.I h77]
  · rw [s4.I (by decide), s3.2.2.2.2.2.2.1 q hq, s2.I (by decide)]
  · rw [e80, s3.2.2.2.2.2.2.2 x hx, e80']
/-- one step of the loop -/
theorem tl_out (d g : Nat) {k r w : Int32} {i : Nat} (hR : RT M nc nm) (hi : nm ≤ i) (hi2 : i < 2 ^ 31) : lp_X12_tryRow n xs N d (g + 1) 117 [some (.ref 60), some (.int k), some (.int r), some (.int w), none, some (.int (nI i))] [] M = some (none, M) := by
  rw [lu_X12_tryRow_117, hR.2.2.2.2.2.2.2.1, if_pos (nI_le hi hi2)]
theorem tl_no (d g : Nat) {k r w : Int32} {i : Nat} (hR : RT M nc nm) (hi : i < nm) (e : mm_E n xs N d 235 [.ref 60, .int (nI i)] M = some (some (.int (mb false)), M)) : lp_X12_tryRow n xs N d (g + 1) 117 [some (.ref 60), some (.int k), some (.int r), some (.int w), none, some (.int (nI i))] [] M = lp_X12_tryRow n xs N d g 117 [some (.ref 60), some (.int k), some (.int r), some (.int w), none, some (.int (nI (i + 1)))] [] M := by
  have h7 := hR.2.1
  rw [lu_X12_tryRow_117, hR.2.2.2.2.2.2.2.1, if_neg (nI_ge hi (by omega))]
  (rw [e, ra_I]; simp only [Option.bind_some])
  rw [if_pos (show mb false = 0 by decide), nI_1]
theorem tl_yes (d g : Nat) {k r w v : Int32} {i : Nat} {M2 M3 M4 : mmM} (hR : RT M nc nm) (hi : i < nm) (e : mm_E n xs N d 235 [.ref 60, .int (nI i)] M = some (some (.int (mb true)), M)) (e2 : mm_E n xs N d 236 [.ref 60, .int (nI i)] M = some (none, M2)) (e3 : mm_E n xs N d 221 [.ref 60, .int (nI i), .int 1] M2 = some (some (.int v), M2)) (e4 : mm_E n xs N d 271 [.ref 60, .int (k + 1), .int (10 * r + nI i), .int (w + v)] M2 = some (none, M3)) (e5 : mm_E n xs N d 262 [.ref 60, .int k] M3 = some (none, M4)) : lp_X12_tryRow n xs N d (g + 1) 117 [some (.ref 60), some (.int k), some (.int r), some (.int w), none, some (.int (nI i))] [] M = lp_X12_tryRow n xs N d g 117 [some (.ref 60), some (.int k), some (.int r), some (.int w), none, some (.int (nI (i + 1)))] [] M4 := by
  have h7 := hR.2.1
  rw [lu_X12_tryRow_117, hR.2.2.2.2.2.2.2.1, if_neg (nI_ge hi (by omega))]
  (rw [e, ra_I]; simp only [Option.bind_some])
  rw [if_neg (show ¬ mb true = 0 by decide), nI_1]
  (rw [e2, ra_V]; simp only [Option.bind_some])
  (rw [e3, ra_I]; simp only [Option.bind_some])
  (rw [e4, ra_V]; simp only [Option.bind_some])
  (rw [e5, ra_V]; simp only [Option.bind_some])
theorem sub_pos {a b : Nat} (ha : a ≤ 1000) (hb : b ≤ 1000) : (0 < nI a - nI b) = (b < a) := by
  apply propext
  rw [Int32.lt_iff_toInt_lt, pk_sub_toInt (by omega) (by omega), show (0 : Int32).toInt = 0 by decide]
  omega
theorem sub_eq0 {a b : Nat} (ha : a ≤ 1000) (hb : b ≤ 1000) : (nI a - nI b = 0) = (a = b) := by
  apply propext
  rw [← Int32.toInt_inj, pk_sub_toInt (by omega) (by omega), show (0 : Int32).toInt = 0 by decide]
  omega
theorem tb_iff (hb : BF nm i0 st0 f) {r s br bs : Nat} (hr : r ≤ 9999999) (hbr : br ≤ 9999999) (h : DM nc nm i0 st0 f r0 M s) (hB : HB st0 f M br bs) : tbI M (nI (pcs s)) (nI r) (nI (bsum (f 1) s)) ↔ KK st0 (f 3) (f 1) br bs < KK st0 (f 3) (f 1) r s := by
  obtain ⟨b7, bi, bst, bf⟩ := hb
  have w1 := bsum_le (f := f 1) (s := s) (b := 40) (fun i _ => bf 1 i)
  have w2 := bsum_le (f := f 1) (s := bs) (b := 40) (fun i _ => bf 1 i)
  have p1 := pcs_le s
  have p2 := pcs_le bs
  unfold tbI
  rw [hB.1, hB.2.1, hB.2.2.1, hB.2.2.2, h.2.2.1, sub_pos (by omega) (by omega), sub_eq0 (by omega) (by omega), nI_leI (by omega) (by omega), nI_leI (by omega) (by omega), nI_eq (by omega) (by omega), nI_eq (by omega) (by omega), nI_ltI (by omega) (by omega), KK_lt bst hbr hr, Nat.not_le, Nat.not_le]
theorem L_try (hN : 100 ≤ N) (hb : BF nm i0 st0 f) {k r s D : Nat} (hk : pcs s = k) (hF : Fq nm i0 st0 (f 2) (f 3) r s) (ihc : ∀ (m : Nat) (M : mmM) (k0 : Nat), Fst nm i0 st0 (f 2) (f 3) s m → DM nc nm i0 st0 f r0 M (s ||| 2 ^ m) → (∃ br bs, HB st0 f M br bs ∧ Fq nm i0 st0 (f 2) (f 3) br bs ∧ k0 ≤ KK st0 (f 3) (f 1) br bs) → ∃ M', mm_E n xs N (D + 3) 271 [.ref 60, .int (nI (k + 1)), .int (nI (10 * r + m)), .int (nI (bsum (f 1) (s ||| 2 ^ m)))] M = some (none, M') ∧ KB (k + 1) M M' ∧ ∃ br bs, HB st0 f M' br bs ∧ Fq nm i0 st0 (f 2) (f 3) br bs ∧ k0 ≤ KK st0 (f 3) (f 1) br bs ∧ ∀ q r' s', Rk (Fst nm i0 st0 (f 2) (f 3)) q (10 * r + m) (s ||| 2 ^ m) r' s' → KK st0 (f 3) (f 1) r' s' ≤ KK st0 (f 3) (f 1) br bs) : ∀ (jm i fu : Nat) (M1 : mmM) (br bs : Nat), i + jm = nm → jm < fu → DM nc nm i0 st0 f r0 M1 s → (∀ t, t < 17 → mm_I M1 80 (17 * k + t) = mm_I M1 77 t) → HB st0 f M1 br bs → Fq nm i0 st0 (f 2) (f 3) br bs → ∃ M', lp_X12_tryRow n xs N (D + 3) fu 117 [some (.ref 60), some (.int (nI k)), some (.int (nI r)), some (.int (nI (bsum (f 1) s))), none, some (.int (nI i))] [] M1 = some (none, M') ∧ KB (k + 1) M1 M' ∧ ∃ br' bs', HB st0 f M' br' bs' ∧ Fq nm i0 st0 (f 2) (f 3) br' bs' ∧ KK st0 (f 3) (f 1) br bs ≤ KK st0 (f 3) (f 1) br' bs' ∧ ∀ m, i ≤ m → Fst nm i0 st0 (f 2) (f 3) s m → ∀ q r' s', Rk (Fst nm i0 st0 (f 2) (f 3)) q (10 * r + m) (s ||| 2 ^ m) r' s' → KK st0 (f 3) (f 1) r' s' ≤ KK st0 (f 3) (f 1) br' bs' := by
  have hb0 := hb
  obtain ⟨b7, bi, bst, bf⟩ := hb
  obtain ⟨s1, s128, -, -, -, -⟩ := Fq_in b7 hF
  have hk7 := pcs_le s
  intro jm
  induction jm with
  | zero =>
    intro i fu M1 br bs hij hg hD hA hB hFb
    obtain ⟨fu, rfl⟩ : ∃ g, fu = g + 1 := ⟨fu - 1, by omega⟩
    refine ⟨M1, tl_out _ _ hD.1 (by omega) (by omega), KB.rf, br, bs, hB, hFb, Nat.le_refl _, fun m hm hst => ?_⟩
    have := hst.1
    omega
  | succ jm ih =>
    intro i fu M1 br bs hij hg hD hA hB hFb
    obtain ⟨fu, rfl⟩ : ∃ g, fu = g + 1 := ⟨fu - 1, by omega⟩
    have e := E_cfT (n := n) (xs := xs) (N := N) hb0 s128 hD (D + 1) (m := i) (by omega)
    cases hc : (!(i0 ||| s).testBit i && decide (f 2 i ≤ st0 - bsum (f 3) s)) with
    | false =>
      rw [hc] at e
      obtain ⟨M', e', k', br', bs', a1, a2, a3, a4⟩ := ih (i + 1) fu M1 br bs (by omega) (by omega) hD hA hB hFb
      refine ⟨M', (tl_no _ _ hD.1 (by omega) e).trans e', k', br', bs', a1, a2, a3, fun m hm hst => ?_⟩
      by_cases q : m = i
      · subst q
        exfalso
        obtain ⟨t1, t2, t3, t4⟩ := hst
        rw [Nat.testBit_or, t2, t3, decide_eq_true t4] at hc
        cases hc
      · exact a4 m (by omega) hst
    | true =>
      rw [hc] at e
      simp only [Bool.and_eq_true, Bool.not_eq_true', decide_eq_true_eq, Nat.testBit_or, Bool.or_eq_false_iff] at hc
      obtain ⟨⟨c1, c2⟩, c3⟩ := hc
      have hst : Fst nm i0 st0 (f 2) (f 3) s i := ⟨by omega, c2, c1, c3⟩
      obtain ⟨M2, e2, s2, D2⟩ := E_foldT (n := n) (xs := xs) (N := N) hb0 s128 hD D (m := i) (by omega) c2
      have e3 : mm_E n xs N (D + 3) 221 [.ref 60, .int (nI i), .int 1] M2 = some (some (.int (nI (f 1 i))), M2) := by
        have := E_of (n := n) (xs := xs) (N := N) (D + 2) M2 i 1 (by omega) (by omega)
        rw [D2.2.1 i 1 (by omega) (by omega) (by omega)] at this
        exact this
      have B2 : HB st0 f M2 br bs := by
        unfold HB at hB ⊢
        rw [s2.I (by decide)]
        exact hB
      obtain ⟨M3, e4, k3, br3, bs3, a1, a2, a3, a4⟩ := ihc i M2 (KK st0 (f 3) (f 1) br bs) hst D2 ⟨br, bs, B2, hFb, Nat.le_refl _⟩
      obtain ⟨M4, e5, s4, r4⟩ := E_takeBack (n := n) (xs := xs) (N := N) hN (D + 2) k (by omega) M3
      have k4 : KB (k + 1) M1 M4 := KB_step hA hD.2.2.2.2 s2 D2 k3 s4 r4
      have e77 : mm_I M4 77 = mm_I M1 77 := k4.I (by decide) (by decide)
      have B4 : HB st0 f M4 br3 bs3 := by
        unfold HB at a1 ⊢
        rw [s4.I (by decide)]
        exact a1
      obtain ⟨M', e', k', br', bs', d1, d2, d3, d4⟩ := ih (i + 1) fu M4 br3 bs3 (by omega) (by omega) (hD.kb k4) (fun t ht => by rw [k4.2.2.2.2.2.2.2 _ (by omega), hA t ht, e77]) B4 a2
      have e4' : mm_E n xs N (D + 3) 271 [.ref 60, .int (nI k + 1), .int (10 * nI r + nI i), .int (nI (bsum (f 1) s) + nI (f 1 i))] M2 = some (none, M3) := by
        rw [nI_1, show (10 : Int32) = nI 10 from rfl, pk_mul, nI_add, nI_add, ← bsum_add (f := f 1) (by omega) c2]
        exact e4
      refine ⟨M', (tl_yes _ _ hD.1 (by omega) e e2 e3 e4' e5).trans e', k4.tr k', br', bs', d1, d2, by omega, fun m hm hst' q r' s' hR => ?_⟩
      by_cases hmi : m = i
      · subst hmi
        have := a4 q r' s' hR
        omega
      · exact d4 m (by omega) hst' q r' s' hR
theorem try_node (hN : 100 ≤ N) (hb : BF nm i0 st0 f) {k r s D : Nat} (hk : pcs s = k) (hF : Fq nm i0 st0 (f 2) (f 3) r s) (ihc : ∀ (m : Nat) (M : mmM) (k0 : Nat), Fst nm i0 st0 (f 2) (f 3) s m → DM nc nm i0 st0 f r0 M (s ||| 2 ^ m) → (∃ br bs, HB st0 f M br bs ∧ Fq nm i0 st0 (f 2) (f 3) br bs ∧ k0 ≤ KK st0 (f 3) (f 1) br bs) → ∃ M', mm_E n xs N (D + 3) 271 [.ref 60, .int (nI (k + 1)), .int (nI (10 * r + m)), .int (nI (bsum (f 1) (s ||| 2 ^ m)))] M = some (none, M') ∧ KB (k + 1) M M' ∧ ∃ br bs, HB st0 f M' br bs ∧ Fq nm i0 st0 (f 2) (f 3) br bs ∧ k0 ≤ KK st0 (f 3) (f 1) br bs ∧ ∀ q r' s', Rk (Fst nm i0 st0 (f 2) (f 3)) q (10 * r + m) (s ||| 2 ^ m) r' s' → KK st0 (f 3) (f 1) r' s' ≤ KK st0 (f 3) (f 1) br bs) {M : mmM} {k0 : Nat} (hM : DM nc nm i0 st0 f r0 M s) (hpre : (mm_I M 60 36 = -1 ∧ k0 = 0) ∨ ∃ br bs, HB st0 f M br bs ∧ Fq nm i0 st0 (f 2) (f 3) br bs ∧ k0 ≤ KK st0 (f 3) (f 1) br bs) : ∃ M', mm_E n xs N (D + 3 + 1) 271 [.ref 60, .int (nI k), .int (nI r), .int (nI (bsum (f 1) s))] M = some (none, M') ∧ KB k M M' ∧ ∃ br bs, HB st0 f M' br bs ∧ Fq nm i0 st0 (f 2) (f 3) br bs ∧ k0 ≤ KK st0 (f 3) (f 1) br bs ∧ ∀ q r' s', Rk (Fst nm i0 st0 (f 2) (f 3)) q r s r' s' → KK st0 (f 3) (f 1) r' s' ≤ KK st0 (f 3) (f 1) br bs := by
  have hb0 := hb
  obtain ⟨b7, bi, bst, bf⟩ := hb
  obtain ⟨-, s128, -, hr9, -, -⟩ := Fq_in b7 hF
  have hk7 := pcs_le s
  have w1 := bsum_le (f := f 1) (s := s) (b := 40) (fun i _ => bf 1 i)
  -- what is put aside and looped over, from a memory with a best not worse than this node
  have go : ∀ (Mx : mmM) (br bs : Nat), DM nc nm i0 st0 f r0 Mx s → HB st0 f Mx br bs → Fq nm i0 st0 (f 2) (f 3) br bs → KK st0 (f 3) (f 1) r s ≤ KK st0 (f 3) (f 1) br bs → ∃ M', ((mm_aV (mm_E n xs N (D + 3) 261 [.ref 60, .int (nI k)] Mx)).bind fun p => lp_X12_tryRow n xs N (D + 3) N 117 [some (.ref 60), some (.int (nI k)), some (.int (nI r)), some (.int (nI (bsum (f 1) s))), none, some (.int 0)] [] p) = some (none, M') ∧ KB k Mx M' ∧ ∃ br' bs', HB st0 f M' br' bs' ∧ Fq nm i0 st0 (f 2) (f 3) br' bs' ∧ KK st0 (f 3) (f 1) br bs ≤ KK st0 (f 3) (f 1) br' bs' ∧ ∀ q r' s', Rk (Fst nm i0 st0 (f 2) (f 3)) q r s r' s' → KK st0 (f 3) (f 1) r' s' ≤ KK st0 (f 3) (f 1) br' bs' := by
    intro Mx br bs hD hB hFb hle
    obtain ⟨M1, e1, s1, p1, q1⟩ := E_putAside (n := n) (xs := xs) (N := N) hN (D + 2) k (by omega) Mx
    have k1 : KB k Mx M1 := KB_put s1 (fun x hx => q1 x (by omega))
    have e77 : mm_I M1 77 = mm_I Mx 77 := s1.I (by decide)
    have B1 : HB st0 f M1 br bs := by
      unfold HB at hB ⊢
      rw [s1.I (by decide)]
      exact hB
    obtain ⟨M', e', k', br', bs', d1, d2, d3, d4⟩ := L_try hN hb0 hk hF ihc nm 0 N M1 br bs (by omega) (by omega) (hD.kb k1) (fun t ht => by rw [p1 t ht, e77]) B1 hFb
    refine ⟨M', ?_, k1.tr k'.dn, br', bs', d1, d2, d3, fun q r' s' hR => ?_⟩
    · (rw [e1, ra_V]; simp only [Option.bind_some])
      exact e'
    · cases q with
      | zero =>
        obtain ⟨rfl, rfl⟩ := hR
        omega
      | succ q =>
        obtain ⟨m, hst, hR'⟩ := hR
        exact d4 m (by omega) hst q r' s' hR'
  have BU : HB st0 f (tbU M (nI k) (nI r) (nI (bsum (f 1) s))) r s := by
    unfold HB tbU
    rw [hM.2.2.1, ← hk]
    simp only [I_w, if_true, show ¬ (35 : Nat) = 38 by decide, show ¬ (35 : Nat) = 37 by decide, show ¬ (35 : Nat) = 36 by decide, show ¬ (36 : Nat) = 38 by decide, show ¬ (36 : Nat) = 37 by decide, show ¬ (37 : Nat) = 38 by decide, if_false, and_self]
  rcases hpre with ⟨hm1, h0⟩ | ⟨br, bs, hB, hFb, hle⟩
  · have ht : tbI M (nI k) (nI r) (nI (bsum (f 1) s)) := Or.inl (by
      rw [hm1]
      intro q
      have := Int32.le_iff_toInt_le.mp q
      rw [nI_toInt (by omega), show (-1 : Int32).toInt = -1 by decide] at this
      omega)
    obtain ⟨M', e', k', br', bs', d1, d2, d3, d4⟩ := go _ r s (hM.kb (KB_U (k := k))) BU hF (Nat.le_refl _)
    exact ⟨M', (tr_yes (D + 3) ht).trans e', KB_U.tr k', br', bs', d1, d2, by omega, d4⟩
  · have hbr9 : br ≤ 9999999 := (Fq_in b7 hFb).2.2.2.1
    have hti := tb_iff hb0 hr9 hbr9 hM hB
    rw [hk] at hti
    by_cases ht : tbI M (nI k) (nI r) (nI (bsum (f 1) s))
    · have hlt := hti.mp ht
      obtain ⟨M', e', k', br', bs', d1, d2, d3, d4⟩ := go _ r s (hM.kb (KB_U (k := k))) BU hF (Nat.le_refl _)
      exact ⟨M', (tr_yes (D + 3) ht).trans e', KB_U.tr k', br', bs', d1, d2, by omega, d4⟩
    · have hge : KK st0 (f 3) (f 1) r s ≤ KK st0 (f 3) (f 1) br bs := Nat.not_lt.mp (fun w => ht (hti.mpr w))
      obtain ⟨M', e', k', br', bs', d1, d2, d3, d4⟩ := go M br bs hM hB hFb hge
      exact ⟨M', (tr_no (D + 3) ht).trans e', k', br', bs', d1, d2, by omega, d4⟩
theorem E_try (hN : 100 ≤ N) (hb : BF nm i0 st0 f) : ∀ (j k r s D : Nat) (M : mmM) (k0 : Nat), pcs s = k → k + j = 7 → j + 4 ≤ D → Fq nm i0 st0 (f 2) (f 3) r s → DM nc nm i0 st0 f r0 M s → ((mm_I M 60 36 = -1 ∧ k0 = 0) ∨ ∃ br bs, HB st0 f M br bs ∧ Fq nm i0 st0 (f 2) (f 3) br bs ∧ k0 ≤ KK st0 (f 3) (f 1) br bs) → ∃ M', mm_E n xs N D 271 [.ref 60, .int (nI k), .int (nI r), .int (nI (bsum (f 1) s))] M = some (none, M') ∧ KB k M M' ∧ ∃ br bs, HB st0 f M' br bs ∧ Fq nm i0 st0 (f 2) (f 3) br bs ∧ k0 ≤ KK st0 (f 3) (f 1) br bs ∧ ∀ q r' s', Rk (Fst nm i0 st0 (f 2) (f 3)) q r s r' s' → KK st0 (f 3) (f 1) r' s' ≤ KK st0 (f 3) (f 1) br bs := by
  have hb0 := hb
  obtain ⟨b7, bi, bst, bf⟩ := hb
  intro j
  induction j with
  | zero =>
    intro k r s D M k0 hk hkj hD hF hM hpre
    obtain ⟨D, rfl⟩ : ∃ g, D = g + 3 + 1 := ⟨D - 4, by omega⟩
    exact try_node hN hb0 hk hF (fun m _ _ hst => absurd (pcs_full (s := s) (m := m) (by have := hst.1; omega) hst.2.1) (by omega)) hM hpre
  | succ j ih =>
    intro k r s D M k0 hk hkj hD hF hM hpre
    obtain ⟨D, rfl⟩ : ∃ g, D = g + 3 + 1 := ⟨D - 4, by omega⟩
    refine try_node hN hb0 hk hF (fun m M2 k2 hst hM2 hB2 => ?_) hM hpre
    have hp : pcs (s ||| 2 ^ m) = k + 1 := by
      have := bsum_add (f := fun _ => 1) (s := s) (m := m) (by have := hst.1; omega) hst.2.1
      unfold pcs at hk ⊢
      omega
    exact ih (k + 1) (10 * r + m) (s ||| 2 ^ m) (D + 3) M2 k2 hp (by omega) (by omega) (Fq_st hF hst) hM2 (Or.inr hB2)
end TR
