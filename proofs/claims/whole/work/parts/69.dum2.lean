/-! a duchy is read, by the model: items, clauses, all -/
section DN
variable {n : Nat} {xs : Nat → Int32} {N : Nat} {M M' M1 M2 : mmM} {T : Nat → Int32} {s a b kd : Nat}
def capK (kd : Nat) : Nat := pl_m kd * pl_w kd
theorem s71 (M : mmM) (h : kd < 3) : mm_s (mm_Y n xs) M (71 + kd) = .inr (0, capK kd) := by rcases kd3 h with rfl | rfl | rfl <;> rfl
theorem cap28 (h : kd < 3) : capK kd ≤ 28 := by rcases kd3 h with rfl | rfl | rfl <;> decide
theorem ix_cap (h : kd < 3) {i k : Nat} (hi : i < pl_m kd) (hk : k < pl_w kd) : i * pl_w kd + k < capK kd := by rcases kd3 h with rfl | rfl | rfl <;> simp [capK, pl_w, pl_m] at * <;> omega
theorem DMf.w7 (h : kd < 3) {k : Nat} {x : Int32} : DMf M (mm_wI M (71 + kd) k x) := ⟨rfl, rfl, rfl, rfl, rfl, fun b _ h1 h2 h3 => I_wn (by omega), fun q _ _ _ _ => by rw [I_wn (by omega)]⟩
/-- only the row of a kind and the place and fault are others -/
def KR (kd : Nat) (M M' : mmM) : Prop := M'.1 = M.1 ∧ M'.2.1 = M.2.1 ∧ M'.2.2.1 = M.2.2.1 ∧ mm_J M' = mm_J M ∧ M'.2.2.2.2.2 = M.2.2.2.2.2 ∧ (∀ b, b ≠ 60 → b ≠ 71 + kd → mm_I M' b = mm_I M b) ∧ ∀ q, q ≠ 3 → q ≠ 4 → mm_I M' 60 q = mm_I M 60 q
theorem KR.rf : KR kd M M := ⟨rfl, rfl, rfl, rfl, rfl, fun _ _ _ => rfl, fun _ _ _ => rfl⟩
theorem KR.tr (h : KR kd M M1) (g : KR kd M1 M2) : KR kd M M2 := ⟨g.1.trans h.1, g.2.1.trans h.2.1, g.2.2.1.trans h.2.2.1, g.2.2.2.1.trans h.2.2.2.1, g.2.2.2.2.1.trans h.2.2.2.2.1, fun c h1 h2 => (g.2.2.2.2.2.1 c h1 h2).trans (h.2.2.2.2.2.1 c h1 h2), fun c h1 h2 => (g.2.2.2.2.2.2 c h1 h2).trans (h.2.2.2.2.2.2 c h1 h2)⟩
theorem MW.kr (h : MW M M1) : KR kd M M1 := ⟨h.1, h.2.1, h.2.2.1, h.2.2.2.1, h.2.2.2.2.1, fun b hb _ => h.I hb, h.2.2.2.2.2.2⟩
theorem KR.w {k : Nat} {x : Int32} : KR kd M (mm_wI M (71 + kd) k x) := ⟨rfl, rfl, rfl, rfl, rfl, fun b _ h1 => I_wn h1, fun q _ _ => by rw [I_wn (by omega)]⟩
theorem KR.dm (h3 : kd < 3) (h : KR kd M M1) : DMf M M1 := ⟨h.1, h.2.1, h.2.2.1, h.2.2.2.1, h.2.2.2.2.1, fun b hb h1 h2 h4 => h.2.2.2.2.2.1 b hb (by omega), fun q h3 h4 _ _ => h.2.2.2.2.2.2 q h3 h4⟩
theorem MTp.kr (h3 : kd < 3) (h : MTp M T s) (g : KR kd M M1) : MTp M1 T s := h.dm (g.dm h3)
theorem oI_1 {o : Option Nat} {k : Nat} (h : o = some k) (hk : k < 1000) : ¬ oI o = -1 := by rw [h]; exact nI_ne1 (by omega)
/-- the row of the clause is v's -/
def RQ (M : mmM) (kd i : Nat) (v : Nat → Int32) : Prop := ∀ k, k < pl_w kd → mm_I M (71 + kd) (i * pl_w kd + k) = v (plK kd i + k)
theorem sk_sk (has : a ≤ s) : sk T s (sk T s a) = sk T s a := by
  have : ∀ (j a : Nat), a + j = s → skF T (s - skF T j a) (skF T j a) = skF T j a := by
    intro j
    induction j with
    | zero => intro a h; show skF T (s - a) a = a; rw [show s - a = 0 by omega]; rfl
    | succ j ih2 =>
      intro a h
      rw [skF_s]
      by_cases q : T a = 32
      · rw [if_pos q]; exact ih2 (a + 1) (by omega)
      · rw [if_neg q, show s - a = j + 1 by omega, skF_s, if_neg q]
  exact this (s - a) a (by omega)
theorem vlP_le {k p : Nat} (has : a ≤ s) (h : vlP T s kd k a = .inl p) : p ≤ s := by
  have hb := sk_le (T := T) has
  have ge := nmF_ge T s 2 (sk T s a) 0 hb
  unfold vlP at h
  split at h
  · split at h
    · cases h; exact ge.2
    · split at h
      · cases h
      · cases h; omega
  · cases h; exact hb
def IF (T : Nat → Int32) (s : Nat) (M1 : mmM) (p : Nat) : Prop := p ≤ s ∧ (mm_I M1 60 4 = nI p ∨ (mm_I M1 60 4 = -1 ∧ mm_I M1 60 3 = nI p ∧ sk T s p = p ∧ cu T s p ≠ 59 ∧ cu T s p ≠ -1))
theorem tb8_59 : ∀ x, x < 10 → mm_tb 8 x ≠ 59 := by decide
theorem L_itM (hN : 1000 ≤ N) (d : Nat) (h : kd < 3) {i : Nat} (hi : i < pl_m kd) : ∀ (g a fnd f : Nat) (v : Nat → Int32) (M : mmM), MTp M T s → mm_I M 60 4 = -1 → mm_I M 60 3 = nI (sk T s a) → a ≤ s → s - a < g → s - a + 1 < f → fnd < 16 → RQ M kd i v → (∀ p, itL T s kd (plK kd i) g a fnd v = .inl p → ∃ M1, lp_X12_items n xs N (d + 4) f 41 [some (.ref 60), some (.int (mm_tb 7 kd)), some (.ref (71 + kd)), some (.int (nI (i * pl_w kd))), none, some (.int (nI fnd)), some (.int (oI (itN kd (cu T s (sk T s a)))))] [] M = some (none, M1) ∧ KR kd M M1 ∧ IF T s M1 p) ∧ ∀ q, itL T s kd (plK kd i) g a fnd v = .inr q → ∃ M1, lp_X12_items n xs N (d + 4) f 41 [some (.ref 60), some (.int (mm_tb 7 kd)), some (.ref (71 + kd)), some (.int (nI (i * pl_w kd))), none, some (.int (nI fnd)), some (.int (oI (itN kd (cu T s (sk T s a)))))] [] M = some (none, M1) ∧ KR kd M M1 ∧ mm_I M1 60 4 = -1 ∧ mm_I M1 60 3 = nI q.1 ∧ sk T s q.1 = q.1 ∧ RQ M1 kd i q.2 ∧ ∀ x, (x < i * pl_w kd ∨ i * pl_w kd + pl_w kd ≤ x) → mm_I M1 (71 + kd) x = mm_I M (71 + kd) x := by
  intro g
  induction g with
  | zero => intro a fnd f v M _ _ _ _ hg; omega
  | succ g ih =>
    intro a fnd f v M hT hw ha has hg hf h16 hR
    obtain ⟨f, rfl⟩ : ∃ g, f = g + 1 := ⟨f - 1, by omega⟩
    have h4 := pl_w4 kd
    have hb := sk_le (T := T) has
    have hge := sk_ge T s a
    have hs := hT.1
    rw [itL_s]
    cases e : itN kd (cu T s (sk T s a)) with
    | none =>
      refine ⟨fun p hp => (by cases hp), fun q hq => ?_⟩
      cases hq
      refine ⟨M, ?_, KR.rf, hw, ha, sk_sk has, hR, fun _ _ => rfl⟩
      rw [lu_X12_items_41, if_pos hw, if_pos (show oI none = -1 from rfl)]
    | some k =>
      obtain ⟨hk, hlt⟩ := it_in h e
      have ef := itF_lt (pl_w kd) 0 k e
      have h10 := fiK10 h hk
      have hc := cap28 h
      have hix := ix_cap h hi hk
      dsimp only
      rw [show oI (some k) = nI k from rfl]
      have ehas := E_has (n := n) (xs := xs) (N := N) (d + 3) M (nI fnd) k
      rw [ib_tb (show fnd < 2 ^ 31 by omega) (by omega)] at ehas
      cases hbit : fnd.testBit k with
      | true =>
        rw [hbit] at ehas
        rw [if_pos rfl]
        refine ⟨fun p hp => ?_, fun q hq => by cases hq⟩
        cases hp
        refine ⟨M, ?_, KR.rf, hb, Or.inr ⟨hw, ha, sk_sk has, ?_, ?_⟩⟩
        · rw [lu_X12_items_41, if_pos hw, if_neg (nI_ne1 (by omega)), ehas, ra_I, Option.bind_some]
          rfl
        · rw [← ef.2.2]; exact tb8_59 _ h10
        · rw [← ef.2.2]; exact tb8 _ h10
      | false =>
        rw [hbit] at ehas
        rw [if_neg (show ¬ false = true by decide)]
        have x1 : MT M (mm_wI M 60 3 (nI (sk T s a + 1))) (sk T s a + 1) := MT.w
        have eh := E_highest (n := n) (xs := xs) (N := N) (d + 3) (mm_wI M 60 3 (nI (sk T s a + 1))) h hk
        have step : lp_X12_items n xs N (d + 4) (f + 1) 41 [some (.ref 60), some (.int (mm_tb 7 kd)), some (.ref (71 + kd)), some (.int (nI (i * pl_w kd))), none, some (.int (nI fnd)), some (.int (nI k))] [] M = ((mm_aI (mm_E n xs N (d + 4) 212 [.ref 60, .int (mm_tb 3 (fiK kd + k)), .int (mm_tb 4 (fiK kd + k))] (mm_wI M 60 3 (nI (sk T s a + 1))))).bind fun p7 => (if (mm_I (mm_wI p7.2 (71 + kd) (i * pl_w kd + k) p7.1) 60 4) = (-1 : Int32) then ((mm_aI (mm_E n xs N (d + 4) 187 [.ref 60] (mm_wI p7.2 (71 + kd) (i * pl_w kd + k) p7.1))).bind fun p9 => ((mm_aI (mm_E n xs N (d + 4) 213 [.int (mm_tb 7 kd), .int p9.1] p9.2)).bind fun p10 => (lp_X12_items n xs N (d + 4) f 41 [some (.ref 60), some (.int (mm_tb 7 kd)), some (.ref (71 + kd)), some (.int (nI (i * pl_w kd))), none, some (.int (nI (fnd ||| 2 ^ k))), some (.int p10.1)] [] p10.2))) else (lp_X12_items n xs N (d + 4) f 41 [some (.ref 60), some (.int (mm_tb 7 kd)), some (.ref (71 + kd)), some (.int (nI (i * pl_w kd))), none, some (.int (nI (fnd ||| 2 ^ k))), some (.int (-1 : Int32))] [] (mm_wI p7.2 (71 + kd) (i * pl_w kd + k) p7.1)))) := by
          have arr : ∀ Mx, mm_arr (mm_s (mm_Y n xs) Mx (71 + kd)) 0 = some (capK kd) := fun Mx => by rw [s71 Mx h]; rfl
          rw [lu_X12_items_41, if_pos hw, if_neg (nI_ne1 (by omega)), ehas, ra_I, Option.bind_some]
          dsimp only
          rw [if_pos (show mb false = 0 by decide), ha, nI_1, eh, ra_I, Option.bind_some]
          simp only [arr, Option.bind_some, nI_add, mm_inb_nI hix (show capK kd < 2 ^ 31 by omega), mm_ble (show 16 ≤ 71 + kd by omega), Bool.and_self, cond_true, nI_clamp (show i * pl_w kd + k < 2 ^ 31 by omega), shl1 (show k < 32 by omega), nI_or]
          rcases kd3 h with rfl | rfl | rfl
          · rw [if_neg (by decide)]
            have t3 : mm_tb 3 (fiK 0 + k) = 0 := by rcases kk h hk with ⟨-, rfl | rfl | rfl | rfl⟩ | ⟨q, -⟩ | ⟨q, -⟩ <;> first | rfl | omega
            rw [t3]
          · rw [if_pos (by decide)]
            have t3 : mm_tb 3 (fiK 1 + k) = 1 := by rcases kk h hk with ⟨q, -⟩ | ⟨-, rfl | rfl⟩ | ⟨q, -⟩ <;> first | rfl | omega
            rw [t3]
          · rw [if_neg (by decide)]
            have t3 : mm_tb 3 (fiK 2 + k) = 0 := by rcases kk h hk with ⟨q, -⟩ | ⟨q, -⟩ | ⟨-, rfl | rfl | rfl | rfl⟩ <;> first | rfl | omega
            rw [t3]
        rw [step]
        obtain ⟨v1, v2⟩ := E_numM (n := n) (xs := xs) (N := N) (kd := kd) (k := k) hN (d + 1) (hT.mt x1) ((x1.q (by decide)).trans hw) x1.pl (show sk T s a + 1 ≤ s by omega)
        cases e2 : vlP T s kd k (sk T s a + 1) with
        | inl p =>
          obtain ⟨v, M3, e3, x3, p3⟩ := v1 p e2
          have hp := vlP_le (by omega) e2
          refine ⟨fun p' hp' => ?_, fun q hq => by cases hq⟩
          cases hp'
          obtain ⟨f, rfl⟩ : ∃ g, f = g + 1 := ⟨f - 1, by omega⟩
          have p4 : mm_I (mm_wI M3 (71 + kd) (i * pl_w kd + k) v) 60 4 = nI p := by rw [I_wn (by omega)]; exact p3
          refine ⟨mm_wI M3 (71 + kd) (i * pl_w kd + k) v, ?_, (x1.mw.tr x3).kr.tr KR.w, hp, Or.inl p4⟩
          rw [e3, ra_I, Option.bind_some]
          dsimp only
          rw [p4, if_neg (nI_ne1 (by omega)), lu_X12_items_41, p4, if_neg (nI_ne1 (by omega))]
        | inr r =>
          obtain ⟨M3, e3, x3⟩ := v2 r e2
          obtain ⟨g1, g2, g3⟩ := vlP_ge (by omega) e2
          have f16 : fnd ||| 2 ^ k < 16 := lt_or (k := 4) h16 (by omega)
          have xK : KR kd M (mm_wI M3 (71 + kd) (i * pl_w kd + k) (nI r.2)) := (x1.tr x3).mw.kr.tr KR.w
          have p4 : mm_I (mm_wI M3 (71 + kd) (i * pl_w kd + k) (nI r.2)) 60 4 = -1 := by rw [I_wn (by omega), (x1.tr x3).q (by decide)]; exact hw
          have p3 : mm_I (mm_wI M3 (71 + kd) (i * pl_w kd + k) (nI r.2)) 60 3 = nI r.1 := by rw [I_wn (by omega)]; exact x3.pl
          obtain ⟨M5, e5, x5⟩ := E_lookM (n := n) (xs := xs) (N := N) hN (d + 2) (hT.kr h xK) p3 g2
          have r71 : mm_I M5 (71 + kd) = fun x => if x = i * pl_w kd + k then nI r.2 else mm_I M (71 + kd) x := by
            funext x
            rw [x5.I (by omega), I_s, (x1.tr x3).I (by omega)]
          have hR5 : RQ M5 kd i (upV v (plK kd i + k) (nI r.2)) := by
            intro k' hk'
            rw [r71]
            show (if i * pl_w kd + k' = i * pl_w kd + k then nI r.2 else mm_I M (71 + kd) (i * pl_w kd + k')) = (if plK kd i + k' = plK kd i + k then nI r.2 else v (plK kd i + k'))
            by_cases q : k' = k
            · rw [if_pos (by omega), if_pos (by omega)]
            · rw [if_neg (by omega), if_neg (by omega)]
              exact hR k' hk'
          have i1 := ih r.1 (fnd ||| 2 ^ k) f (upV v (plK kd i + k) (nI r.2)) M5 ((hT.kr h xK).mt x5) ((x5.q (by decide)).trans p4) x5.pl (by omega) (by omega) (by omega) f16 hR5
          have ei := E_itemOf (n := n) (xs := xs) (N := N) (d + 3) M5 h (cu T s (sk T s r.1))
          have pre2 : ((mm_aI (mm_E n xs N (d + 4) 212 [.ref 60, .int (mm_tb 3 (fiK kd + k)), .int (mm_tb 4 (fiK kd + k))] (mm_wI M 60 3 (nI (sk T s a + 1))))).bind fun p7 => (if (mm_I (mm_wI p7.2 (71 + kd) (i * pl_w kd + k) p7.1) 60 4) = (-1 : Int32) then ((mm_aI (mm_E n xs N (d + 4) 187 [.ref 60] (mm_wI p7.2 (71 + kd) (i * pl_w kd + k) p7.1))).bind fun p9 => ((mm_aI (mm_E n xs N (d + 4) 213 [.int (mm_tb 7 kd), .int p9.1] p9.2)).bind fun p10 => (lp_X12_items n xs N (d + 4) f 41 [some (.ref 60), some (.int (mm_tb 7 kd)), some (.ref (71 + kd)), some (.int (nI (i * pl_w kd))), none, some (.int (nI (fnd ||| 2 ^ k))), some (.int p10.1)] [] p10.2))) else (lp_X12_items n xs N (d + 4) f 41 [some (.ref 60), some (.int (mm_tb 7 kd)), some (.ref (71 + kd)), some (.int (nI (i * pl_w kd))), none, some (.int (nI (fnd ||| 2 ^ k))), some (.int (-1 : Int32))] [] (mm_wI p7.2 (71 + kd) (i * pl_w kd + k) p7.1)))) = lp_X12_items n xs N (d + 4) f 41 [some (.ref 60), some (.int (mm_tb 7 kd)), some (.ref (71 + kd)), some (.int (nI (i * pl_w kd))), none, some (.int (nI (fnd ||| 2 ^ k))), some (.int (oI (itN kd (cu T s (sk T s r.1)))))] [] M5 := by
            rw [e3, ra_I, Option.bind_some]
            dsimp only
            rw [if_pos p4, e5, ra_I, Option.bind_some]
            dsimp only
            rw [ei, ra_I, Option.bind_some]
          rw [pre2]
          refine ⟨fun p hp => ?_, fun q hq => ?_⟩
          · obtain ⟨M6, e6, x6, y6⟩ := i1.1 p hp
            exact ⟨M6, e6, (xK.tr x5.mw.kr).tr x6, y6⟩
          · obtain ⟨M6, e6, x6, y1, y2, y3, y4, y5⟩ := i1.2 q hq
            refine ⟨M6, e6, (xK.tr x5.mw.kr).tr x6, y1, y2, y3, y4, fun x hx => ?_⟩
            rw [y5 x hx, r71]
            show (if x = i * pl_w kd + k then nI r.2 else mm_I M (71 + kd) x) = _
            rw [if_neg (by omega)]
/-- what stands there without items -/
theorem L_us (d : Nat) (h : kd < 3) {i : Nat} (hi : i < pl_m kd) (g : Nat) : ∀ (j k : Nat) (M : mmM), k + j = pl_w kd → ∃ M1, lp_X12_items n xs N (d + 1) (g + j) 3 [some (.ref 60), some (.int (mm_tb 7 kd)), some (.ref (71 + kd)), some (.int (nI (i * pl_w kd))), some (.int (nI (pl_w kd))), some (.int (nI k)), none] [] M = lp_X12_items n xs N (d + 1) g 3 [some (.ref 60), some (.int (mm_tb 7 kd)), some (.ref (71 + kd)), some (.int (nI (i * pl_w kd))), some (.int (nI (pl_w kd))), some (.int (nI (pl_w kd))), none] [] M1 ∧ KR kd M M1 ∧ mm_I M1 60 = mm_I M 60 ∧ ∀ x, mm_I M1 (71 + kd) x = if i * pl_w kd + k ≤ x ∧ x < i * pl_w kd + pl_w kd then mm_tb 5 (fiK kd + (x - i * pl_w kd)) else mm_I M (71 + kd) x := by
  have h4 := pl_w4 kd
  have hc := cap28 h
  intro j
  induction j with
  | zero =>
    intro k M hkj
    have : k = pl_w kd := by omega
    subst this
    exact ⟨M, rfl, KR.rf, rfl, fun x => by rw [if_neg (by omega)]⟩
  | succ j ih =>
    intro k M hkj
    have hix := ix_cap h hi (show k < pl_w kd by omega)
    obtain ⟨M1, e1, x1, y1, r1⟩ := ih (k + 1) (mm_wI M (71 + kd) (i * pl_w kd + k) (mm_tb 5 (fiK kd + k))) (by omega)
    refine ⟨M1, ?_, KR.w.tr x1, by rw [y1, I_wn (by omega)], fun x => ?_⟩
    · rw [← Nat.add_assoc g j 1, lu_X12_items_3, if_neg (nI_ge (show k < pl_w kd by omega) (by omega)), E_usual d M h (show k < pl_w kd by omega), ra_I, Option.bind_some]
      dsimp only
      rw [s71 M h, show mm_arr (.inr (0, capK kd)) 0 = some (capK kd) from rfl, Option.bind_some, nI_add, mm_inb_nI hix (by omega), mm_ble (show 16 ≤ 71 + kd by omega), Bool.and_self, cond_true, nI_clamp (by omega), nI_1]
      exact e1
    · rw [r1 x, I_s]
      by_cases q : x = i * pl_w kd + k
      · rw [if_neg (by omega), if_pos q, if_pos (by omega), q, show i * pl_w kd + k - i * pl_w kd = k by omega]
      · rw [if_neg q]
        by_cases q2 : i * pl_w kd + (k + 1) ≤ x ∧ x < i * pl_w kd + pl_w kd
        · rw [if_pos q2, if_pos (by omega)]
        · rw [if_neg q2, if_neg (by omega)]
/-- all items of a clause -/
theorem E_items (hN : 1000 ≤ N) (d : Nat) (h : kd < 3) {i : Nat} (hi : i < pl_m kd) (v : Nat → Int32) (hT : MTp M T s) (hw : mm_I M 60 4 = -1) (ha : mm_I M 60 3 = nI a) (has : a ≤ s) : (∀ p, itL T s kd (plK kd i) (s + 1) a 0 (dfl kd i v) = .inl p → ∃ M1, mm_E n xs N (d + 5) 216 [.ref 60, .int (mm_tb 7 kd), .ref (71 + kd), .int (nI (i * pl_w kd)), .int (nI (pl_w kd))] M = some (none, M1) ∧ KR kd M M1 ∧ IF T s M1 p) ∧ ∀ q, itL T s kd (plK kd i) (s + 1) a 0 (dfl kd i v) = .inr q → ∃ M1, mm_E n xs N (d + 5) 216 [.ref 60, .int (mm_tb 7 kd), .ref (71 + kd), .int (nI (i * pl_w kd)), .int (nI (pl_w kd))] M = some (none, M1) ∧ KR kd M M1 ∧ mm_I M1 60 4 = -1 ∧ mm_I M1 60 3 = nI q.1 ∧ sk T s q.1 = q.1 ∧ RQ M1 kd i q.2 ∧ ∀ x, (x < i * pl_w kd ∨ i * pl_w kd + pl_w kd ≤ x) → mm_I M1 (71 + kd) x = mm_I M (71 + kd) x := by
  have h4 := pl_w4 kd
  have hs := hT.1
  obtain ⟨g, hg⟩ : ∃ g, N = g + 1 + pl_w kd := ⟨N - 1 - pl_w kd, by omega⟩
  obtain ⟨M1, e1, x1, y1, r1⟩ := L_us (n := n) (xs := xs) (N := N) (d + 3) h hi (g + 1) (pl_w kd) 0 M (by omega)
  rw [← hg, nI_0] at e1
  have hT1 := hT.kr h x1
  obtain ⟨M2, e2, x2⟩ := E_lookM (n := n) (xs := xs) (N := N) hN (d + 2) hT1 (by rw [y1]; exact ha) has
  have ei := E_itemOf (n := n) (xs := xs) (N := N) (d + 3) M2 h (cu T s (sk T s a))
  have r2 : ∀ x, mm_I M2 (71 + kd) x = if i * pl_w kd ≤ x ∧ x < i * pl_w kd + pl_w kd then mm_tb 5 (fiK kd + (x - i * pl_w kd)) else mm_I M (71 + kd) x := fun x => by rw [x2.I (by omega), r1 x, Nat.add_zero]
  have hR : RQ M2 kd i (dfl kd i v) := by
    intro k hk
    rw [r2, if_pos (by omega)]
    show _ = (if plK kd i ≤ plK kd i + k ∧ plK kd i + k < plK kd i + pl_w kd then mm_tb 5 (fiK kd + (plK kd i + k - plK kd i)) else v (plK kd i + k))
    rw [if_pos (by omega), show i * pl_w kd + k - i * pl_w kd = k by omega, show plK kd i + k - plK kd i = k by omega]
  have hL := L_itM (n := n) (xs := xs) (N := N) hN d h hi (s + 1) a 0 g (dfl kd i v) M2 (hT1.mt x2) (by rw [x2.q (by decide), y1]; exact hw) x2.pl has (by omega) (by omega) (by omega) hR
  have pre : mm_E n xs N (d + 5) 216 [.ref 60, .int (mm_tb 7 kd), .ref (71 + kd), .int (nI (i * pl_w kd)), .int (nI (pl_w kd))] M = lp_X12_items n xs N (d + 4) g 41 [some (.ref 60), some (.int (mm_tb 7 kd)), some (.ref (71 + kd)), some (.int (nI (i * pl_w kd))), none, some (.int (nI 0)), some (.int (oI (itN kd (cu T s (sk T s a)))))] [] M2 := by
    rw [u_X12_items, e1, lu_X12_items_3, if_pos (nI_le (Nat.le_refl _) (by omega)), e2, ra_I, Option.bind_some]
    dsimp only
    rw [ei, ra_I, Option.bind_some]
    rfl
  rw [pre]
  refine ⟨fun p hp => ?_, fun q hq => ?_⟩
  · obtain ⟨M3, e3, x3, y3⟩ := hL.1 p hp
    exact ⟨M3, e3, (x1.tr x2.mw.kr).tr x3, y3⟩
  · obtain ⟨M3, e3, x3, z1, z2, z3, z4, z5⟩ := hL.2 q hq
    refine ⟨M3, e3, (x1.tr x2.mw.kr).tr x3, z1, z2, z3, z4, fun x hx => ?_⟩
    rw [z5 x hx, r2, if_neg (by omega)]
end DN
