/-! by turns -/
theorem back_SM {M M1 M2 M3 : mmM} {q : Nat} {r : Nat → Int32} (s1 : S1 80 M M1) (a1 : ∀ k, k < 17 → mm_I M1 80 (17 * q + k) = mm_I M 77 k) (s2 : SN M1 M2 r) (hr : ∀ k, 17 ≤ k → r k = mm_I M 77 k) (s3 : S1 77 M2 M3) (a3 : mm_I M3 77 = fun k => if k < 17 then mm_I M2 80 (17 * q + k) else mm_I M2 77 k) : SM M M3 := by
  refine ⟨s3.1.trans (s2.1.trans s1.1), s3.2.1.trans (s2.2.1.trans s1.2.1), s3.2.2.1.trans (s2.2.2.1.trans s1.2.2.1), s3.2.2.2.1.trans (s2.2.2.2.1.trans s1.2.2.2.1), s3.2.2.2.2.1.trans (s2.2.2.2.2.1.trans s1.2.2.2.2.1), fun a b1 b2 b3 => ?_⟩
  by_cases ha : a = 77
  · subst ha
    rw [a3]
    funext k
    by_cases hk : k < 17
    · rw [if_pos hk, s2.2.2.2.2.2.1 80 (by decide) (by decide) (by decide), a1 k hk]
    · rw [if_neg hk, s2.2.2.2.2.2.2, hr k (by omega)]
  · rw [s3.2.2.2.2.2 a ha, s2.2.2.2.2.2.1 a b1 b2 ha, s1.2.2.2.2.2 a b3]
theorem c10 : ((1 : Int32) = 0) = False := by simp
theorem c00 : ((0 : Int32) = 0) = True := by simp
theorem c20 : ((2 : Int32) = 0) = False := by simp
theorem c40 : ((4 : Int32) = 0) = False := by simp
theorem nI_le0 {a : Nat} (ha : a < 2 ^ 31) : (nI a ≤ 0) = (a = 0) := by
  rw [show (0 : Int32) = nI 0 from rfl]
  exact propext ⟨fun h => by have := (nI_leI ha (by omega)).mp h; omega, fun h => nI_le (by omega) (by omega)⟩
theorem nI_m1 {a : Nat} (h : a ≠ 0) : nI a - 1 = nI (a - 1) := by
  rw [show (1 : Int32) = nI 1 from rfl, pk_sub (by omega)]
theorem i_sub_a1 (x a : Int32) : x - (a + 1) = x - a - 1 := by
  rw [Int32.sub_eq_add_neg (x - a), Int32.sub_eq_add_neg x a, Int32.sub_eq_add_neg x, Int32.neg_add, Int32.sub_eq_add_neg, Int32.add_assoc]
def bt (gv : Int32 → Int32 → Int32 → Int32 → Int32) (w1 w2 k y v : Int32) : Nat → Nat → Nat → Nat → Int32 → Int32
  | 0, _, _, _, _ => -1
  | j + 1, l1, l2, i, s => if v ≤ s then nI i else if l1 = 0 ∧ l2 = 0 then -1 else if l2 = 0 ∨ (i % 2 = 0 ∧ l1 ≠ 0) then bt gv w1 w2 k y v j (l1 - 1) l2 (i + 1) (stk gv w1 s (k + nI i) y) else bt gv w1 w2 k y v j l1 (l2 - 1) (i + 1) (stk gv w2 s (k + nI i) y)
def nx (c1 c2 l1 l2 i : Nat) : Int32 := if i % 2 = 0 then (if l1 ≠ 0 then nI c1 else if l2 ≠ 0 then nI c2 else -1) else (if l2 ≠ 0 then nI c2 else if l1 ≠ 0 then nI c1 else -1)
section TU
variable {n : Nat} {xs : Nat → Int32} {N : Nat} {gv : Int32 → Int32 → Int32 → Int32 → Int32} {M M' Mb : mmM} {nc nm : Nat}
theorem L_turnX (d : Nat) (v : Int32) (c1 c2 a : Nat) (ha : a ≤ 80) : ∀ (j l1 l2 i f : Nat) (s t : Int32) (M : mmM), CT n xs N gv M nc nm → c1 < nc → c2 < nc → j = l1 + l2 + 1 → i + l1 + l2 = a → j + 1 < f → bd 0 99 s → (l1 ≠ 0 → l2 ≠ 0 → t = mb (decide (i % 2 = 0))) → ∃ M1, lp_X11_byTurns n xs N (d + 9) f 54 [some (.ref 16), some (.int (nI c1)), some (.int (nI c2)), some (.int v), some (.int (nI l1)), some (.int (nI l2)), some (.int (nI a)), some (.int s), some (.int t), some (.int (nI i)), none] [] M = some (some (.int (bt gv (mm_I M 37 c1) (mm_I M 37 c2) (mm_I M 35 1) (mm_I M 35 4) v j l1 l2 i s)), M1) ∧ SX M M1 := by
  intro j
  induction j with
  | zero => intro l1 l2 i f s t M h h1 h2 hj; omega
  | succ j ih =>
    intro l1 l2 i f s t M h h1 h2 hj hi hf hs ht
    have h4 := h.nc4
    obtain ⟨f, rfl⟩ : ∃ g, f = g + 1 := ⟨f - 1, by omega⟩
    rw [lu_X11_byTurns_54]
    simp only [c10, c00, if_true, if_false]
    rw [if_neg (show ¬ nI a < nI i from nI_nlt (by omega) (by omega))]
    unfold bt
    by_cases hv : v ≤ s
    · rw [if_neg (i_nlt.mpr hv), if_pos hv]
      exact ⟨M, rfl, SX.rf⟩
    · rw [if_pos (i_nle.mp hv), if_neg hv]
      simp only [nI_le0 (show l2 < 2 ^ 31 by omega), nI_le0 (show l1 < 2 ^ 31 by omega)]
      obtain ⟨M1, e1, s1⟩ := E_wh h d (h.w9 h1) hs (bd_add h.sk2 (show i ≤ 200 by omega)) h.yk
      obtain ⟨M2, e2, s2⟩ := E_wh h d (h.w9 h2) hs (bd_add h.sk2 (show i ≤ 200 by omega)) h.yk
      have w1 := E_wristOf (n := n) (xs := xs) (N := N) (d + 8) M c1 (by omega)
      have w2 := E_wristOf (n := n) (xs := xs) (N := N) (d + 8) M c2 (by omega)
      simp only [show d + 8 + 1 = d + 9 from rfl] at w1 w2
      simp only [w1, w2, ra_I, Option.bind_some, e1, e2, Int32.sub_zero, nI_1]
      by_cases g0 : l1 = 0 ∧ l2 = 0
      · rw [if_pos g0]
        obtain ⟨rfl, rfl⟩ := g0
        simp only [if_true]
        obtain ⟨f, rfl⟩ : ∃ g, f = g + 1 := ⟨f - 1, by omega⟩
        rw [lu_X11_byTurns_54, if_pos (nI_lt (by omega) (by omega))]
        exact ⟨M1, rfl, s1⟩
      · rw [if_neg g0]
        have cX : l2 = 0 ∨ (i % 2 = 0 ∧ l1 ≠ 0) → ∃ M3, lp_X11_byTurns n xs N (d + 9) f 54 [some (.ref 16), some (.int (nI c1)), some (.int (nI c2)), some (.int v), some (.int (nI l1 - 1)), some (.int (nI l2)), some (.int (nI a)), some (.int (stk gv (mm_I M 37 c1) s (mm_I M 35 1 + nI i) (mm_I M 35 4))), some (.int 0), some (.int (nI (i + 1))), none] [] M1 = some (some (.int (bt gv (mm_I M 37 c1) (mm_I M 37 c2) (mm_I M 35 1) (mm_I M 35 4) v j (l1 - 1) l2 (i + 1) (stk gv (mm_I M 37 c1) s (mm_I M 35 1 + nI i) (mm_I M 35 4)))), M3) ∧ SX M M3 := by
          intro g
          have hl1 : l1 ≠ 0 := by rcases g with g | g <;> omega
          rw [nI_m1 hl1]
          obtain ⟨M3, e3, s3⟩ := ih (l1 - 1) l2 (i + 1) f (stk gv (mm_I M 37 c1) s (mm_I M 35 1 + nI i) (mm_I M 35 4)) 0 M1 (h.sx s1) h1 h2 (by omega) (by omega) (by omega) (stk_bd _ _ _ _) (fun _ q2 => by
            have : ¬ (i + 1) % 2 = 0 := by rcases g with g | g <;> omega
            rw [decide_eq_false this]; rfl)
          rw [s1.I (by decide) (by decide), s1.I (by decide) (by decide)] at e3
          exact ⟨M3, e3, s1.tr s3⟩
        have cY : ¬ (l2 = 0 ∨ (i % 2 = 0 ∧ l1 ≠ 0)) → ∃ M3, lp_X11_byTurns n xs N (d + 9) f 54 [some (.ref 16), some (.int (nI c1)), some (.int (nI c2)), some (.int v), some (.int (nI l1)), some (.int (nI l2 - 1)), some (.int (nI a)), some (.int (stk gv (mm_I M 37 c2) s (mm_I M 35 1 + nI i) (mm_I M 35 4))), some (.int 1), some (.int (nI (i + 1))), none] [] M2 = some (some (.int (bt gv (mm_I M 37 c1) (mm_I M 37 c2) (mm_I M 35 1) (mm_I M 35 4) v j l1 (l2 - 1) (i + 1) (stk gv (mm_I M 37 c2) s (mm_I M 35 1 + nI i) (mm_I M 35 4)))), M3) ∧ SX M M3 := by
          intro g
          have hl2 : l2 ≠ 0 := fun q => g (Or.inl q)
          rw [nI_m1 hl2]
          obtain ⟨M3, e3, s3⟩ := ih l1 (l2 - 1) (i + 1) f (stk gv (mm_I M 37 c2) s (mm_I M 35 1 + nI i) (mm_I M 35 4)) 1 M2 (h.sx s2) h1 h2 (by omega) (by omega) (by omega) (stk_bd _ _ _ _) (fun q1 _ => by
            have : (i + 1) % 2 = 0 := by
              by_cases q : i % 2 = 0
              · exact absurd (Or.inr ⟨q, q1⟩) g
              · omega
            rw [decide_eq_true this]; rfl)
          rw [s2.I (by decide) (by decide), s2.I (by decide) (by decide)] at e3
          exact ⟨M3, e3, s2.tr s3⟩
        by_cases g2 : l2 = 0
        · rw [if_pos g2, if_pos (Or.inl g2)]
          exact cX (Or.inl g2)
        · rw [if_neg g2]
          by_cases g1 : l1 = 0
          · rw [if_neg (show ¬ (l2 = 0 ∨ (i % 2 = 0 ∧ l1 ≠ 0)) by omega), if_pos g1]
            have := cY (by omega)
            by_cases gt : t = 0
            · rw [if_pos gt]; exact this
            · rw [if_neg gt]; exact this
          · rw [if_neg g1, ht g1 g2]
            simp only [mb_0]
            by_cases gi : i % 2 = 0
            · rw [if_neg (by rw [decide_eq_true gi]; decide), if_pos (Or.inr ⟨gi, g1⟩)]
              exact cX (Or.inr ⟨gi, g1⟩)
            · rw [if_pos (decide_eq_false gi), if_neg (show ¬ (l2 = 0 ∨ (i % 2 = 0 ∧ l1 ≠ 0)) by omega)]
              exact cY (by omega)
theorem E_nextOf (d : Nat) (M : mmM) {c1 c2 l1 l2 : Nat} (h1 : c1 < 4) (h2 : c2 < 4) (g1 : mm_I M 75 (2 * c1 + 1) - mm_I M 77 (4 + c1) = nI l1) (g2 : mm_I M 75 (2 * c2 + 1) - mm_I M 77 (4 + c2) = nI l2) (b1 : l1 < 2 ^ 31) (b2 : l2 < 2 ^ 31) : mm_E n xs N (d + 2) 269 [.ref 60, .int (nI c1), .int (nI c2)] M = some (some (.int (if l1 ≠ 0 then nI c1 else if l2 ≠ 0 then nI c2 else -1)), M) := by
  rw [u_X12_nextOf]
  (rw [E_leftOf d M c1 h1, ra_I]; simp only [Option.bind_some])
  simp only [g1, nI_le0 b1]
  by_cases q1 : l1 = 0
  · rw [if_pos q1, if_neg (by omega)]
    (rw [E_leftOf d M c2 h2, ra_I]; simp only [Option.bind_some])
    simp only [g2, nI_le0 b2]
    by_cases q2 : l2 = 0
    · rw [if_pos q2, if_neg (by omega)]
    · rw [if_neg q2, if_pos q2]
  · rw [if_neg q1, if_pos q1]
theorem L_turnM (hG : GM n xs N gv Mb) (hN : 100 ≤ N) (d : Nat) (v w1 w2 k y : Int32) (c1 c2 : Nat) (h1 : c1 < 4) (h2 : c2 < 4) (h12 : c1 ≠ c2) (bw1 : bd 0 9 w1) (bw2 : bd 0 9 w2) (bk : bd 0 200 k) (by9 : bd 0 9 y) : ∀ (j l1 l2 i f : Nat) (M : mmM), QM Mb M → j = l1 + l2 + 1 → i + l1 + l2 ≤ 80 → j < f → mm_I M 77 c1 = w1 → mm_I M 77 c2 = w2 → bd 0 99 (mm_I M 77 8) → mm_I M 77 9 = k + nI i → mm_I M 77 12 = y → mm_I M 75 (2 * c1 + 1) - mm_I M 77 (4 + c1) = nI l1 → mm_I M 75 (2 * c2 + 1) - mm_I M 77 (4 + c2) = nI l2 → ∃ M2 M3 r, lp_X12_byTurns n xs N (d + 10) f 37 [some (.ref 60), some (.int (nI c1)), some (.int (nI c2)), some (.int v), some (.int (nI i)), some (.int (nx c1 c2 l1 l2 i)), none] [] M = some (some (.int (bt gv w1 w2 k y v j l1 l2 i (mm_I M 77 8))), M3) ∧ SN M M2 r ∧ (∀ k, 17 ≤ k → r k = mm_I M 77 k) ∧ S1 77 M2 M3 ∧ mm_I M3 77 = fun k => if k < 17 then mm_I M2 80 (17 * 0 + k) else mm_I M2 77 k := by
  intro j
  induction j with
  | zero => intro l1 l2 i f M hq hj; omega
  | succ j ih =>
    intro l1 l2 i f M hq hj hi hf e1 e2 b8 e9 e12 g1 g2
    obtain ⟨f, rfl⟩ : ∃ g, f = g + 1 := ⟨f - 1, by omega⟩
    rw [lu_X12_byTurns_37]
    simp only [c10, c00, c20, if_true, if_false]
    unfold bt
    have hx : (nx c1 c2 l1 l2 i = -1) = (l1 = 0 ∧ l2 = 0) := by
      unfold nx
      have n1 := nI_ne1 (show c1 < 2 ^ 31 by omega)
      have n2 := nI_ne1 (show c2 < 2 ^ 31 by omega)
      by_cases q1 : l1 = 0 <;> by_cases q2 : l2 = 0 <;> by_cases q3 : i % 2 = 0 <;> simp [q1, q2, q3, n1, n2]
    simp only [hx]
    have fin : ∃ M3, mm_E n xs N (d + 10) 262 [.ref 60, .int (0 : Int32)] M = some (none, M3) ∧ S1 77 M M3 ∧ mm_I M3 77 = fun k => if k < 17 then mm_I M 80 (17 * 0 + k) else mm_I M 77 k := E_takeBack hN (d + 9) 0 (by omega) M
    obtain ⟨M3, t1, t2, t3⟩ := fin
    have sn0 : SN M M (mm_I M 77) := ⟨rfl, rfl, rfl, rfl, rfl, fun _ _ _ _ => rfl, rfl⟩
    by_cases hv : v ≤ mm_I M 77 8
    · rw [if_pos hv, if_neg (i_nlt.mpr hv), if_pos hv]
      (rw [t1, ra_V]; simp only [Option.bind_some])
      exact ⟨M, M3, _, rfl, sn0, fun _ _ => rfl, t2, t3⟩
    · rw [if_neg hv, if_pos (i_nle.mp hv), if_neg hv]
      by_cases g0 : l1 = 0 ∧ l2 = 0
      · rw [if_pos g0, if_pos g0]
        (rw [t1, ra_V]; simp only [Option.bind_some])
        exact ⟨M, M3, _, rfl, sn0, fun _ _ => rfl, t2, t3⟩
      · rw [if_neg g0, if_neg g0]
        have par : (nI (i + 1) - nI (i + 1) / 2 * 2 = 0) = ((i + 1) % 2 = 0) := by
          rw [show (2 : Int32) = nI 2 from rfl, pk_rem (by omega) (by omega) (by omega), show (0 : Int32) = nI 0 from rfl]
          exact propext (nI_eq (by omega) (by omega))
        simp only [nI_1, par]
        have bk' : bd 0 999 (mm_I M 77 9) := by rw [e9]; exact bd_add bk (by omega)
        -- one stroke of either
        have step : ∀ (a b la lb la' : Nat) (wa : Int32), a < 4 → b < 4 → a ≠ b → la = la' + 1 → mm_I M 77 a = wa → bd 0 9 wa → mm_I M 75 (2 * a + 1) - mm_I M 77 (4 + a) = nI la → mm_I M 75 (2 * b + 1) - mm_I M 77 (4 + b) = nI lb → ∃ M1, mm_E n xs N (d + 10) 227 [.ref 60, .int (nI a)] M = some (none, M1) ∧ SN M M1 (mm_I M1 77) ∧ QM Mb M1 ∧ mm_I M1 77 a = wa ∧ mm_I M1 77 b = mm_I M 77 b ∧ mm_I M1 77 8 = stk gv wa (mm_I M 77 8) (k + nI i) y ∧ mm_I M1 77 9 = k + nI (i + 1) ∧ mm_I M1 77 12 = y ∧ mm_I M1 75 (2 * a + 1) - mm_I M1 77 (4 + a) = nI la' ∧ mm_I M1 75 (2 * b + 1) - mm_I M1 77 (4 + b) = nI lb ∧ ∀ k, 17 ≤ k → mm_I M1 77 k = mm_I M 77 k := by
          intro a b la lb la' wa ha hb hab hla ewa bwa ga gb
          obtain ⟨M1, t1, t2⟩ := E_strokeNow hG d a ha M hq (by rw [ewa]; exact bwa) b8 bk' (by rw [e12]; exact by9)
          have r1 : mm_I M1 77 = nw1 gv a (mm_I M 77) := t2.2.2.2.2.2.2
          have r75 : mm_I M1 75 = mm_I M 75 := t2.2.2.2.2.2.1 75 (by decide) (by decide) (by decide)
          refine ⟨M1, t1, by rw [r1]; exact t2, hq.tr t2.QM, by rw [r1, nw1_c ha, ewa], ?_, by rw [r1, nw1_8 ha, ewa, e9, e12], by rw [r1, nw1_9 ha, e9, Int32.add_assoc, nI_1], by rw [r1, nw1_12 ha, e12], ?_, ?_, fun k hk => by rw [r1, nw1_hi ha _ hk]⟩
          · rw [r1]; unfold nw1; rw [if_neg (by omega), if_neg (by omega), if_neg (by omega)]
          · rw [r1, r75]; unfold nw1; rw [if_pos rfl]
            rw [i_sub_a1, ga, hla, nI_pred]
          · rw [r1, r75]; unfold nw1; rw [if_neg (by omega), if_neg (by omega), if_neg (by omega)]; exact gb
        by_cases gc : l2 = 0 ∨ (i % 2 = 0 ∧ l1 ≠ 0)
        · have hl1 : l1 ≠ 0 := by rcases gc with g | g <;> omega
          have hnx : nx c1 c2 l1 l2 i = nI c1 := by
            unfold nx
            by_cases q3 : i % 2 = 0
            · simp [q3, hl1]
            · have : l2 = 0 := by rcases gc with g | g <;> omega
              simp [q3, hl1, this]
          obtain ⟨M1, a1, a2, a3, a4, a5, a6, a7, a8, a9, a10, a11⟩ := step c1 c2 l1 l2 (l1 - 1) w1 h1 h2 h12 (by omega) e1 bw1 g1 g2
          rw [hnx, if_pos gc]
          (rw [a1, ra_V]; simp only [Option.bind_some])
          obtain ⟨M2, M4, r, i1, i2, i3, i4, i5⟩ := ih (l1 - 1) l2 (i + 1) f M1 a3 (by omega) (by omega) (by omega) a4 (a5.trans e2) (by rw [a6]; exact stk_bd _ _ _ _) a7 a8 a9 a10
          rw [a6] at i1
          refine ⟨M2, M4, r, ?_, a2.tr i2, fun k hk => (i3 k hk).trans (a11 k hk), i4, i5⟩
          rw [← i1]
          unfold nx
          by_cases gp : (i + 1) % 2 = 0
          · simp only [gp, if_true]
            (rw [E_nextOf (d + 8) M1 h1 h2 a9 a10 (by omega) (by omega), ra_I]; simp only [Option.bind_some])
          · simp only [gp, if_false]
            (rw [E_nextOf (d + 8) M1 h2 h1 a10 a9 (by omega) (by omega), ra_I]; simp only [Option.bind_some])
        · have hl2 : l2 ≠ 0 := fun q => gc (Or.inl q)
          have hnx : nx c1 c2 l1 l2 i = nI c2 := by
            unfold nx
            by_cases q3 : i % 2 = 0
            · have : l1 = 0 := by omega
              simp [q3, hl2, this]
            · simp [q3, hl2]
          obtain ⟨M1, a1, a2, a3, a4, a5, a6, a7, a8, a9, a10, a11⟩ := step c2 c1 l2 l1 (l2 - 1) w2 h2 h1 (Ne.symm h12) (by omega) e2 bw2 g2 g1
          rw [hnx, if_neg gc]
          (rw [a1, ra_V]; simp only [Option.bind_some])
          obtain ⟨M2, M4, r, i1, i2, i3, i4, i5⟩ := ih l1 (l2 - 1) (i + 1) f M1 a3 (by omega) (by omega) (by omega) (a5.trans e1) a4 (by rw [a6]; exact stk_bd _ _ _ _) a7 a8 a10 a9
          rw [a6] at i1
          refine ⟨M2, M4, r, ?_, a2.tr i2, fun k hk => (i3 k hk).trans (a11 k hk), i4, i5⟩
          rw [← i1]
          unfold nx
          by_cases gp : (i + 1) % 2 = 0
          · simp only [gp, if_true]
            (rw [E_nextOf (d + 8) M1 h1 h2 a10 a9 (by omega) (by omega), ra_I]; simp only [Option.bind_some])
          · simp only [gp, if_false]
            (rw [E_nextOf (d + 8) M1 h2 h1 a9 a10 (by omega) (by omega), ra_I]; simp only [Option.bind_some])
theorem c2_t {a b : Int32} (h4 : nc ≤ 4) (h : c2 nc a b = true) : ∃ i j : Nat, i < nc ∧ j < nc ∧ i ≠ j ∧ a = nI i ∧ b = nI j := by
  unfold c2 at h
  simp only [Bool.and_eq_true, Bool.not_eq_true', decide_eq_false_iff_not] at h
  obtain ⟨i, hi, rfl⟩ := ck_t (by omega) h.1
  obtain ⟨j, hj, rfl⟩ := ck_t (by omega) h.2.1
  exact ⟨i, j, hi, hj, fun q => h.2.2 (by rw [q]), rfl, rfl⟩
theorem Q_byTurns (h : CT n xs N gv M nc nm) (d : Nat) (a b v : Int32) : QQ n xs N (d + 60) M 148 [.ref 16, .int a, .int b, .int v] 270 [.ref 60, .int a, .int b, .int v] := by
  have h4 := h.nc4
  have hN := h.nN
  unfold QQ
  rw [u_X11_byTurns]
  simp only [u_X12_byTurns]
  (rw [E_hasTwo (d + 55) h.1, ra_I]; simp only [Option.bind_some])
  cases hk : c2 nc a b with
  | false =>
    refine ⟨-1, M, M, rfl, FR.rf, ?_, FR.rf⟩
    (rw [E_areTwo (d + 56) h.1, ra_I]; simp only [Option.bind_some])
    rw [hk]
    rfl
  | true =>
    obtain ⟨i, j, hi, hj, hij, rfl, rfl⟩ := c2_t h4 hk
    rw [if_neg (show ¬ mb true = 0 by decide)]
    (rw [E_isStand (d + 57) M v, ra_I]; simp only [Option.bind_some])
    cases hw : wi 0 v 99 with
    | false =>
      refine ⟨-1, M, M, rfl, FR.rf, ?_, FR.rf⟩
      (rw [E_areTwo (d + 56) h.1, ra_I]; simp only [Option.bind_some])
      rw [hk, if_neg (show ¬ mb true = 0 by decide)]
      (rw [E_in (d + 58) M v 0 99, ra_I]; simp only [Option.bind_some])
      rw [hw]
      rfl
    | true =>
      have li := (h.lf hi).2
      have lj := (h.lf hj).2
      rw [if_neg (show ¬ mb true = 0 by decide)]
      (rw [E_left h (d + 55) hi, ra_I]; simp only [Option.bind_some])
      (rw [E_left h (d + 55) hj, ra_I]; simp only [Option.bind_some])
      rw [nI_add]
      obtain ⟨M1, e1, s1⟩ := L_turnX (d + 50) v i j (lfN M i + lfN M j) (by omega) (lfN M i + lfN M j + 1) (lfN M i) (lfN M j) 0 N (mm_I M 35 0) 1 M h hi hj rfl (by omega) (by omega) h.st (fun _ _ => rfl)
      have h' := h.sx s1
      obtain ⟨M2, p1, p2, p3, p4⟩ := E_putAside (n := n) (xs := xs) (N := N) (by omega) (d + 58) 0 (by omega) M1
      have r77 : mm_I M2 77 = mm_I M1 77 := p2.2.2.2.2.2 77 (by decide)
      have r75 : mm_I M2 75 = mm_I M1 75 := p2.2.2.2.2.2 75 (by decide)
      have q2 : QM M1 M2 := ⟨fun a g1 g2 => p2.2.2.2.2.2 a (by omega), p2.2.2.2.2.2 74 (by decide), by rw [p2.2.2.2.2.2 60 (by decide)]⟩
      have ea : mm_I M2 75 (2 * i + 1) - mm_I M2 77 (4 + i) = nI (lfN M i) := by rw [r75, r77, h'.c75 hi (by omega), (h'.cm hi).2, (h'.lf hi).1, lf_fr s1.fr]
      have eb : mm_I M2 75 (2 * j + 1) - mm_I M2 77 (4 + j) = nI (lfN M j) := by rw [r75, r77, h'.c75 hj (by omega), (h'.cm hj).2, (h'.lf hj).1, lf_fr s1.fr]
      obtain ⟨M3, M4, r, t1, t2, t3, t4, t5⟩ := L_turnM (n := n) (xs := xs) (N := N) h'.2.2.2.1 (by omega) (d + 49) v (mm_I M1 37 i) (mm_I M1 37 j) (mm_I M1 35 1) (mm_I M1 35 4) i j (by omega) (by omega) hij (h'.w9 hi) (h'.w9 hj) h'.sk2 h'.yk (lfN M i + lfN M j + 1) (lfN M i) (lfN M j) 0 N M2 q2 rfl (by omega) (by omega) (by rw [r77]; exact (h'.cm hi).1) (by rw [r77]; exact (h'.cm hj).1) (by rw [r77, h'.b8]; exact h'.st) (by rw [r77, h'.b9, show nI 0 = (0 : Int32) from rfl, Int32.add_zero]) (by rw [r77, h'.b12]) ea eb
      have sm : SM M1 M4 := back_SM p2 p3 t2 (fun k hk => by rw [t3 k hk, r77]) t4 t5
      refine ⟨_, M1, M4, e1, s1.fr, ?_, sm.fr⟩
      (rw [E_areTwo (d + 56) h'.1, ra_I]; simp only [Option.bind_some])
      rw [hk, if_neg (show ¬ mb true = 0 by decide)]
      (rw [E_in (d + 58) M1 v 0 99, ra_I]; simp only [Option.bind_some])
      rw [hw, if_neg (show ¬ mb true = 0 by decide)]
      (rw [show mm_E n xs N (d + 59) 261 [.ref 60, .int 0] M1 = _ from p1, ra_V]; simp only [Option.bind_some])
      (rw [E_nextOf (d + 57) M2 (by omega) (by omega) ea eb (by omega) (by omega), ra_I]; simp only [Option.bind_some])
      refine t1.trans ?_
      rw [r77, h'.b8, s1.I (show 37 ≠ 25 by decide) (by decide), s1.I (show 35 ≠ 25 by decide) (by decide)]
end TU
