/-! row -/
def fw (M : mmM) (nm w m : Nat) : Nat := if m < nm ∧ 1 ≤ w ∧ w < 4 then (mm_I M 33 (12 + m * 4 + w)).toNatClampNeg else 0
section RO
variable {n : Nat} {xs : Nat → Int32} {N : Nat} {gv : Int32 → Int32 → Int32 → Int32 → Int32} {M M' : mmM} {nc nm : Nat}
theorem CT.in2 (h : CT n xs N gv M nc nm) : 0 ≤ (mm_I M 35 2).toInt ∧ (mm_I M 35 2).toInt < 2 ^ nm := h.2.1.2.2.2.2.2.2.2.2.2.2.2.2.1
theorem CT.fwN (h : CT n xs N gv M nc nm) {m w : Nat} (hm : m < nm) (h1 : 1 ≤ w) (hw : w < 4) : mm_I M 33 (12 + m * 4 + w) = nI (fw M nm w m) ∧ fw M nm w m ≤ 40 := by
  have hb : bd 0 40 (mm_I M 33 (12 + m * 4 + w)) := by
    obtain ⟨a0, a1, a2, a3⟩ := h.mi hm
    rcases (show w = 1 ∨ w = 2 ∨ w = 3 by omega) with rfl | rfl | rfl
    · unfold bd at a1 ⊢; omega
    · exact a2
    · unfold bd at a3 ⊢; omega
  obtain ⟨k, hk, e⟩ := bd_nI (h := 40) hb
  have : fw M nm w m = k := by
    unfold fw
    rw [if_pos ⟨hm, h1, hw⟩, e, nI_clamp (by omega)]
  rw [this]
  exact ⟨e, hk⟩
theorem CT.bf (h : CT n xs N gv M nc nm) : ∃ i0 st0, BF nm i0 st0 (fw M nm) ∧ mm_I M 35 0 = nI st0 ∧ mm_I M 35 2 = nI i0 := by
  have h7 := h.nm7
  obtain ⟨a, b⟩ := h.in2
  have h2 : (2 : Int) ^ nm ≤ 2 ^ 7 := by
    have : (2 : Nat) ^ nm ≤ 2 ^ 7 := Nat.pow_le_pow_right (by omega) h7
    exact_mod_cast this
  obtain ⟨i0, hi, ei⟩ := bd_nI (h := 127) (x := mm_I M 35 2) (by unfold bd; omega)
  obtain ⟨st0, hst, es⟩ := bd_nI (h := 99) h.st
  refine ⟨i0, st0, ⟨h7, by omega, hst, fun w m => ?_⟩, es, ei⟩
  by_cases q : m < nm ∧ 1 ≤ w ∧ w < 4
  · exact (h.fwN q.1 q.2.1 q.2.2).2
  · unfold fw
    rw [if_neg q]
    omega
theorem Q_row (h : CT n xs N gv M nc nm) (z54 : mm_I M 54 0 = 0) (z55 : mm_I M 55 0 = 0) (d : Nat) (x : Int32) : QQ n xs N (d + 60) M 149 [.ref 16, .int x] 272 [.ref 60, .int x] := by
  have hN := h.nN
  by_cases h0 : nm = 0
  · unfold QQ
    rw [u_X11_row]
    simp only [u_X12_row]
    refine ⟨-1, M, M, ?_, FR.rf, ?_, FR.rf⟩
    · rw [if_pos (h.X0 h0).1]
    · rw [if_pos (h.X0 h0).2]
  · unfold QQ
    rw [u_X11_row, if_neg (h.X1 h0).1]
    simp only [u_X12_row]
    (rw [E_isWithin (d + 58) M 0 x 2, ra_I]; simp only [Option.bind_some])
    cases hx : wi 0 x 2 with
    | false =>
      refine ⟨-1, M, M, rfl, FR.rf, ?_, FR.rf⟩
      rw [if_neg (h.X1 h0).2]
      (rw [E_in (d + 58) M x 0 2, ra_I]; simp only [Option.bind_some])
      rw [hx]
      rfl
    | true =>
      rw [if_neg (show ¬ mb true = 0 by decide)]
      obtain ⟨i0, st0, hb, es, ei⟩ := h.bf
      have b7 := hb.1
      have hX : CX nc nm i0 st0 (fw M nm) M := ⟨h.1, fun m w hm h1 hw => (h.fwN hm h1 hw).1, es, ei⟩
      obtain ⟨M1, b, rb, e1, f1, D1, x3, x4, x5, x6⟩ := E_bs (n := n) (xs := xs) (N := N) (by omega) hb hX z54 z55 (d + 53)
      rw [show mm_E n xs N (d + 59) 55 [.ref 52] M = _ from e1, ra_I, Option.bind_some]
      dsimp only
      have h1 := h.mv f1
      have hM : DM nc nm i0 st0 (fw M nm) (mm_I M1 77) (mm_wI M1 60 36 (-1)) 0 := by
        have k0 : KB 0 M1 (mm_wI M1 60 36 (-1)) := ⟨rfl, rfl, rfl, rfl, rfl, fun b h1 _ => I_wn h1, fun q hq => by rw [I_w, if_pos rfl, if_neg (by omega)], fun x hx => by omega⟩
        have a : DM nc nm i0 st0 (fw M nm) (mm_I M1 77) M1 0 := by
          refine ⟨h1.1, fun m w hm h1' hw => ?_, ?_, ?_, fun _ _ => rfl⟩
          · rw [h1.c76 hm hw, f1.I (show scr 33 = false by decide)]
            exact (h.fwN hm h1' hw).1
          · rw [h1.b8, f1.I (show scr 35 = false by decide), es, bsum_0, Nat.sub_zero]
          · rw [h1.b10, f1.I (show scr 35 = false by decide), ei, Nat.or_zero]
        exact a.kb k0
      obtain ⟨M2, e2, k2, br, bs, y1, y2, -, y4⟩ := E_try (n := n) (xs := xs) (N := N) (by omega) hb 7 0 0 0 (d + 59) (mm_wI M1 60 36 (-1)) 0 (bsum_0 _) (by omega) (by omega) Fq_0 hM (Or.inl ⟨by rw [I_w, if_pos rfl, if_pos rfl], rfl⟩)
      rw [bsum_0, nI_0] at e2
      have f2 : FR M1 M2 := by
        refine FR.tr (M' := mm_wI M1 60 36 (-1)) ?_ k2.fr
        exact ⟨rfl, rfl, rfl, rfl, fun b hb => I_wn (scr_ne hb rfl), fun k _ => by rw [I_wn (by decide)], fun q _ hq => by rw [I_w, if_pos rfl, if_neg (by omega)], fun a ha => by rw [I_wn (by omega)], rfl⟩
      have inb := Fq_in b7 y2
      have inx := Fq_in b7 x5
      have hKK : KK st0 (fw M nm 3) (fw M nm 1) rb b = KK st0 (fw M nm 3) (fw M nm 1) br bs := by
        have g1 := x6 bs br inb.1 y2
        obtain ⟨q, hq⟩ := x5
        have g2 := y4 q rb b hq
        omega
      obtain ⟨k1, k2', k3, k4⟩ := KK_eq hb.2.2.1 inx.2.2.2.1 inb.2.2.2.1 hKK
      have b128 : b < 128 := inx.2.1
      have bz : b = 0 ↔ pcs b = 0 := by
        constructor
        · intro q; rw [q]; exact bsum_0 _
        · intro q
          have := inx.2.2.2.2.2
          rw [q] at this
          exact this.2
      have md : ∀ v, (if x = 0 then (if mm_I M2 60 38 = 0 then some (some (.int (-1)), M2) else some (some (.int (mm_I M2 60 35)), M2)) else if x = 1 then some (some (.int (mm_I M2 60 36)), M2) else some (some (.int (mm_I M2 60 37)), M2)) = some (some (Value.int v), M2) → (if mm_I M1 60 26 = 0 then some (some (.int (-1)), M1) else (mm_aI (mm_E n xs N (d + 59) 179 [.int x, .int 0, .int 2] M1)).bind fun p1 => if p1.1 = 0 then some (some (.int (-1)), p1.2) else (mm_aV (mm_E n xs N (d + 59) 271 [.ref 60, .int 0, .int 0, .int 0] (mm_wI p1.2 60 36 (-1)))).bind fun p2 => if x = 0 then (if mm_I p2 60 38 = 0 then some (some (.int (-1)), p2) else some (some (.int (mm_I p2 60 35)), p2)) else if x = 1 then some (some (.int (mm_I p2 60 36)), p2) else some (some (.int (mm_I p2 60 37)), p2)) = some (some (Value.int v), M2) := by
        intro v hv
        rw [if_neg (h1.X1 h0).2, E_in (d + 58) M1 x 0 2, ra_I, Option.bind_some]
        dsimp only
        rw [hx, if_neg (show ¬ mb true = 0 by decide), e2, ra_V, Option.bind_some]
        exact hv
      have z38 : (mm_I M2 60 38 = 0) = (pcs bs = 0) := by rw [y1.2.2.2]; exact nI_eq0 (by have := pcs_le bs; omega)
      have zb : (nI b = 0) = (b = 0) := nI_eq0 (by omega)
      by_cases q0 : x = 0
      · by_cases qb : b = 0
        · refine ⟨-1, M1, M2, ?_, f1, md _ ?_, f2⟩
          · rw [if_pos q0, if_pos (by rw [zb]; exact qb)]
          · rw [if_pos q0, if_pos (by rw [z38, ← k3]; exact bz.mp qb)]
        · refine ⟨nI rb, M1, M2, ?_, f1, md _ ?_, f2⟩
          · rw [if_pos q0, if_neg (by rw [zb]; exact qb), E_lro (d + 58) M1 b128, ra_I, Option.bind_some]
            dsimp only
            rw [x4]
          · rw [if_pos q0, if_neg (by rw [z38, ← k3]; exact fun w => qb (bz.mpr w)), y1.1, ← k4]
      · by_cases q1 : x = 1
        · refine ⟨nI (bsum (fw M nm 1) b), M1, M2, ?_, f1, md _ ?_, f2⟩
          · rw [if_neg q0, if_pos q1, E_vo (d + 58) M1 b128, ra_I, Option.bind_some]
            dsimp only
            rw [(D1 b x3).2.1]
          · rw [if_neg q0, if_pos q1, y1.2.1, ← k1]
        · refine ⟨nI (st0 - bsum (fw M nm 3) b), M1, M2, ?_, f1, md _ ?_, f2⟩
          · rw [if_neg q0, if_neg q1, E_sb hb (hX.fr f1) (d + 57) b128 (D1 b x3).1, ra_I, Option.bind_some]
          · rw [if_neg q0, if_neg q1, y1.2.2.1, ← k2']
end RO
