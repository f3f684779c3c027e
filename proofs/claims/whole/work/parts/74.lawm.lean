theorem lu_wo {c : Int32} (hc : c = -1) (n : Nat) (xs : Nat → Int32) (N d f : Nat) (M : mmM) (y1 y3 y4 y5 : Int32) : lp_X12_workOut n xs N d (f + 1) 12 [some (.ref 60), some (.int y1), none, some (.int y3), some (.int y4), some (.int y5)] [] M =
  (if (((520 : Int32) * y1) + y3) ≤ y5 then some (some (.int (mm_I M 70 0)), M) else (cond (mm_inb y5 2600) (if (mm_I M 62 y5.toNatClampNeg) = 0 then (cond (mm_inb y5 2600) (if (mm_I M 62 y5.toNatClampNeg) = 0 then (cond (mm_inb y5 2600) (cond (mm_inb y4 80 && Nat.ble 16 70) (lp_X12_workOut n xs N d f 12 [some (.ref 60), some (.int y1), none, some (.int y3), some (.int (y4 + (1 : Int32))), some (.int (y5 + (1 : Int32)))] [] (mm_wI M 70 y4.toNatClampNeg (mm_I M 63 y5.toNatClampNeg))) none) none) else (cond (mm_inb y5 2600) (cond (mm_inb (mm_I M 63 y5.toNatClampNeg) 6) (cond (mm_inb y4 80 && Nat.ble 16 70) (lp_X12_workOut n xs N d f 12 [some (.ref 60), some (.int y1), none, some (.int y3), some (.int (y4 + (1 : Int32))), some (.int (y5 + (1 : Int32)))] [] (mm_wI M 70 y4.toNatClampNeg (mm_I M 69 ((mm_I M 63 y5.toNatClampNeg).toNatClampNeg)))) none) none) none)) none) else (cond (mm_inb y5 2600) (if (mm_I M 62 y5.toNatClampNeg) = (1 : Int32) then (cond (mm_inb y5 2600) (if (mm_I M 62 y5.toNatClampNeg) = 0 then (cond (mm_inb y5 2600) (cond (mm_inb y4 80 && Nat.ble 16 70) (lp_X12_workOut n xs N d f 12 [some (.ref 60), some (.int y1), none, some (.int y3), some (.int (y4 + (1 : Int32))), some (.int (y5 + (1 : Int32)))] [] (mm_wI M 70 y4.toNatClampNeg (mm_I M 63 y5.toNatClampNeg))) none) none) else (cond (mm_inb y5 2600) (cond (mm_inb (mm_I M 63 y5.toNatClampNeg) 6) (cond (mm_inb y4 80 && Nat.ble 16 70) (lp_X12_workOut n xs N d f 12 [some (.ref 60), some (.int y1), none, some (.int y3), some (.int (y4 + (1 : Int32))), some (.int (y5 + (1 : Int32)))] [] (mm_wI M 70 y4.toNatClampNeg (mm_I M 69 ((mm_I M 63 y5.toNatClampNeg).toNatClampNeg)))) none) none) none)) none) else (cond (mm_inb y5 2600) (if (mm_I M 62 y5.toNatClampNeg) = (9 : Int32) then (cond (mm_inb (y4 - (1 : Int32)) 80) (cond (mm_inb (y4 - (1 : Int32)) 80 && Nat.ble 16 70) (lp_X12_workOut n xs N d f 12 [some (.ref 60), some (.int y1), none, some (.int y3), some (.int y4), some (.int (y5 + (1 : Int32)))] [] (mm_wI M 70 ((y4 - (1 : Int32)).toNatClampNeg) ((1 : Int32) - (mm_I M 70 ((y4 - (1 : Int32)).toNatClampNeg))))) none) none) else (cond (mm_inb y5 2600) (cond (mm_inb ((y4 + c) - (1 : Int32)) 80) (cond (mm_inb (y4 + c) 80) ((mm_aI (mm_E n xs N d 209 [.int (mm_I M 62 y5.toNatClampNeg), .long ((mm_I M 70 (((y4 + c) - (1 : Int32)).toNatClampNeg)).toInt64), .long ((mm_I M 70 ((y4 + c).toNatClampNeg)).toInt64)] M)).bind fun p1 => (cond (mm_inb ((y4 + c) - (1 : Int32)) 80 && Nat.ble 16 70) (lp_X12_workOut n xs N d f 12 [some (.ref 60), some (.int y1), none, some (.int y3), some (.int (y4 + c)), some (.int (y5 + (1 : Int32)))] [] (mm_wI p1.2 70 (((y4 + c) - (1 : Int32)).toNatClampNeg) p1.1)) none)) none) none) none)) none)) none)) none)) := by
  subst hc
  exact lu_X12_workOut_12 n xs N d f M y1 y3 y4 y5
/-- the model's number of a sign -/
def opc (t : Int32) : Int32 := if t = -43 then 2 else if t = -45 then 3 else if t = -42 then 4 else if t = -47 then 5 else if t = -61 then 6 else if t = -60 then 7 else if t = -62 then 8 else if t = -33 then 9 else if t = -38 then 10 else 11
def TKn (o v t : Int32) : Prop := (0 ≤ t.toInt ∧ o = 0 ∧ v = t) ∨ (t.toInt < 0 ∧ ∃ i, ltr t = some i ∧ o = 1 ∧ v = nI i) ∨ (t.toInt < 0 ∧ ltr t = none ∧ o = opc t)
def RTk (g h : Nat → Int32) (p : Nat) : List Int32 → Prop
  | [] => True
  | t :: r => TKn (g p) (h p) t ∧ RTk g h (p + 1) r
/-- the model's pile alone has been at work -/
def PM (M M' : mmM) : Prop := M'.1 = M.1 ∧ M'.2.1 = M.2.1 ∧ M'.2.2.1 = M.2.2.1 ∧ M'.2.2.2.2.1 = M.2.2.2.2.1 ∧ M'.2.2.2.2.2 = M.2.2.2.2.2 ∧ ∀ a, a ≠ 70 → mm_I M' a = mm_I M a
theorem PM.rf {M : mmM} : PM M M := ⟨rfl, rfl, rfl, rfl, rfl, fun _ _ => rfl⟩
theorem PM.tr {M M' M'' : mmM} (h : PM M M') (g : PM M' M'') : PM M M'' := ⟨g.1.trans h.1, g.2.1.trans h.2.1, g.2.2.1.trans h.2.2.1, g.2.2.2.1.trans h.2.2.2.1, g.2.2.2.2.1.trans h.2.2.2.2.1, fun a a1 => (g.2.2.2.2.2 a a1).trans (h.2.2.2.2.2 a a1)⟩
theorem PM.w {M : mmM} {k : Nat} {v : Int32} : PM M (mm_wI M 70 k v) := ⟨rfl, rfl, rfl, rfl, rfl, fun a a1 => I_wn a1⟩
def ME (M : mmM) (e : Nat → Int) : Prop := ∀ i, i < 6 → (mm_I M 69 i).toInt = e i
theorem ME.pm {M M' : mmM} {e : Nat → Int} (h : ME M e) (g : PM M M') : ME M' e := fun i hi => by rw [g.2.2.2.2.2 69 (by decide)]; exact h i hi
section LM
variable {n : Nat} {xs : Nat → Int32} {N : Nat} {M : mmM}
theorem E_bounded (d : Nat) (x : Int64) : ∃ r : Int32, mm_E n xs N (d + 2) 208 [.long x] M = some (some (.int r), M) ∧ r.toInt = hlN x.toInt := by
  rw [u_X12_bounded]
  have hA : (1000000 : Int64).toInt = 1000000 := by decide
  have hB : (-1000000 : Int64).toInt = -1000000 := by decide
  generalize (-1000000 : Int64) = B at hB ⊢
  generalize (1000000 : Int64) = A at hA ⊢
  have e1 : mm_E n xs N (d + 1) 305 [.long A, .long x] M = some (some (.long (if 0 < lg_cmp A x then x else A)), M) := by rw [u_J9_min_f86c9]; split <;> rfl
  generalize hm : (if 0 < lg_cmp A x then x else A) = m at e1
  have e2 : mm_E n xs N (d + 1) 303 [.long B, .long m] M = some (some (.long (if lg_cmp B m < 0 then m else B)), M) := by rw [u_J9_max_f86c9]; split <;> rfl
  generalize hr : (if lg_cmp B m < 0 then m else B) = r at e2
  have hv := hold_v hA hB hm.symm hr.symm
  (rw [e1, ra_J]; simp only [Option.bind_some])
  (rw [e2, ra_J]; simp only [Option.bind_some])
  exact ⟨_, rfl, hv⟩
theorem E_worked (d : Nat) {t a b : Int32} (h : t = -43 ∨ t = -45 ∨ t = -42 ∨ t = -47 ∨ t = -60 ∨ t = -61 ∨ t = -62 ∨ t = -38 ∨ t = -124) (ha : -1000000 ≤ a.toInt ∧ a.toInt ≤ 1000000) (hb : -1000000 ≤ b.toInt ∧ b.toInt ≤ 1000000) : ∃ r : Int32, mm_E n xs N (d + 3) 209 [.int (opc t), .long a.toInt64, .long b.toInt64] M = some (some (.int r), M) ∧ r.toInt = opv t a.toInt b.toInt := by
  have ca : a.toInt64.toInt = a.toInt := Int32.toInt_toInt64 a
  have cb : b.toInt64.toInt = b.toInt := Int32.toInt_toInt64 b
  have ha' : -1000000 ≤ a.toInt64.toInt ∧ a.toInt64.toInt ≤ 1000000 := by rw [ca]; exact ha
  have hb' : -1000000 ≤ b.toInt64.toInt ∧ b.toInt64.toInt ≤ 1000000 := by rw [cb]; exact hb
  have z0 : (0 : Int64).toInt = 0 := by decide
  have i0 : (0 : Int32).toInt = 0 := by decide
  have i1 : (1 : Int32).toInt = 1 := by decide
  have cz : ∀ x : Int32, lg_cmp x.toInt64 (0 : Int64) = 0 ↔ x.toInt = 0 := fun x => ⟨fun w => by rw [← Int32.toInt_toInt64 x, (lg_cmp_eq _ _).mp w, z0], fun w => (lg_cmp_eq _ _).mpr (Int64.toInt_inj.mp (by rw [Int32.toInt_toInt64, w, z0]))⟩
  rcases h with h | h | h | h | h | h | h | h | h <;> subst h
  · rw [show opc (-43 : Int32) = 2 from by decide, u_X12_worked, if_pos rfl, opv_43]
    obtain ⟨r, e1, e2⟩ := E_bounded (n := n) (xs := xs) (N := N) (M := M) d (a.toInt64 + b.toInt64)
    (rw [e1, ra_I]; simp only [Option.bind_some])
    exact ⟨_, rfl, by rw [e2, l_add ha' hb', ca, cb]⟩
  · rw [show opc (-45 : Int32) = 3 from by decide, u_X12_worked, if_neg (show ¬ (3 : Int32) = 2 from by decide), if_pos rfl, opv_45]
    obtain ⟨r, e1, e2⟩ := E_bounded (n := n) (xs := xs) (N := N) (M := M) d (a.toInt64 - b.toInt64)
    (rw [e1, ra_I]; simp only [Option.bind_some])
    exact ⟨_, rfl, by rw [e2, l_sub ha' hb', ca, cb]⟩
  · rw [show opc (-42 : Int32) = 4 from by decide, u_X12_worked, if_neg (show ¬ (4 : Int32) = 2 from by decide), if_neg (show ¬ (4 : Int32) = 3 from by decide), if_pos rfl, opv_42]
    obtain ⟨r, e1, e2⟩ := E_bounded (n := n) (xs := xs) (N := N) (M := M) d (a.toInt64 * b.toInt64)
    (rw [e1, ra_I]; simp only [Option.bind_some])
    exact ⟨_, rfl, by rw [e2, l_mul ha' hb', ca, cb]⟩
  · rw [show opc (-47 : Int32) = 5 from by decide, u_X12_worked, if_neg (show ¬ (5 : Int32) = 2 from by decide), if_neg (show ¬ (5 : Int32) = 3 from by decide), if_neg (show ¬ (5 : Int32) = 4 from by decide), if_pos rfl, opv_47]
    by_cases hz : b.toInt = 0
    · rw [if_pos ((cz b).mpr hz), if_pos hz]
      exact ⟨_, rfl, i0⟩
    · have hz' : ¬ b.toInt64 = 0 := fun w => hz (by rw [← cb, w, z0])
      rw [if_neg (fun w => hz ((cz b).mp w)), if_neg hz', if_neg hz]
      obtain ⟨r, e1, e2⟩ := E_bounded (n := n) (xs := xs) (N := N) (M := M) d (a.toInt64 / b.toInt64)
      (rw [e1, ra_I]; simp only [Option.bind_some])
      exact ⟨_, rfl, by rw [e2, l_div ha', ca, cb]⟩
  · rw [show opc (-60 : Int32) = 7 from by decide, u_X12_worked, if_neg (show ¬ (7 : Int32) = 2 from by decide), if_neg (show ¬ (7 : Int32) = 3 from by decide), if_neg (show ¬ (7 : Int32) = 4 from by decide), if_neg (show ¬ (7 : Int32) = 5 from by decide), if_neg (show ¬ (7 : Int32) = 6 from by decide), if_pos rfl, opv_60]
    by_cases hz : a.toInt < b.toInt
    · rw [if_neg (fun w => by have := Int64.le_iff_toInt_le.mp ((lg_cmp_ge _ _).mp w); omega), if_pos hz]
      exact ⟨_, rfl, i1⟩
    · rw [if_pos ((lg_cmp_ge _ _).mpr (Int64.le_iff_toInt_le.mpr (by omega))), if_neg hz]
      exact ⟨_, rfl, i0⟩
  · rw [show opc (-61 : Int32) = 6 from by decide, u_X12_worked, if_neg (show ¬ (6 : Int32) = 2 from by decide), if_neg (show ¬ (6 : Int32) = 3 from by decide), if_neg (show ¬ (6 : Int32) = 4 from by decide), if_neg (show ¬ (6 : Int32) = 5 from by decide), if_pos rfl, opv_61]
    by_cases hz : a.toInt = b.toInt
    · rw [if_pos ((lg_cmp_eq _ _).mpr (Int64.toInt_inj.mp (by omega))), if_pos hz]
      exact ⟨_, rfl, i1⟩
    · rw [if_neg (fun w => hz (by rw [← ca, ← cb, (lg_cmp_eq _ _).mp w])), if_neg hz]
      exact ⟨_, rfl, i0⟩
  · rw [show opc (-62 : Int32) = 8 from by decide, u_X12_worked, if_neg (show ¬ (8 : Int32) = 2 from by decide), if_neg (show ¬ (8 : Int32) = 3 from by decide), if_neg (show ¬ (8 : Int32) = 4 from by decide), if_neg (show ¬ (8 : Int32) = 5 from by decide), if_neg (show ¬ (8 : Int32) = 6 from by decide), if_neg (show ¬ (8 : Int32) = 7 from by decide), if_pos rfl, opv_62]
    by_cases hz : b.toInt < a.toInt
    · rw [if_neg (fun w => by have := Int64.le_iff_toInt_le.mp ((lg_cmp_le _ _).mp w); omega), if_pos hz]
      exact ⟨_, rfl, i1⟩
    · rw [if_pos ((lg_cmp_le _ _).mpr (Int64.le_iff_toInt_le.mpr (by omega))), if_neg hz]
      exact ⟨_, rfl, i0⟩
  · rw [show opc (-38 : Int32) = 10 from by decide, u_X12_worked, if_neg (show ¬ (10 : Int32) = 2 from by decide), if_neg (show ¬ (10 : Int32) = 3 from by decide), if_neg (show ¬ (10 : Int32) = 4 from by decide), if_neg (show ¬ (10 : Int32) = 5 from by decide), if_neg (show ¬ (10 : Int32) = 6 from by decide), if_neg (show ¬ (10 : Int32) = 7 from by decide), if_neg (show ¬ (10 : Int32) = 8 from by decide), if_neg (show ¬ (10 : Int32) = 9 from by decide), if_pos rfl, opv_38]
    by_cases h1 : a.toInt = 0
    · rw [if_pos ((cz a).mpr h1), if_pos (Or.inl h1)]
      exact ⟨_, rfl, i0⟩
    · rw [if_neg (fun w => h1 ((cz a).mp w))]
      by_cases h2 : b.toInt = 0
      · rw [if_pos ((cz b).mpr h2), if_pos (Or.inr h2)]
        exact ⟨_, rfl, i0⟩
      · rw [if_neg (fun w => h2 ((cz b).mp w)), if_neg (by omega)]
        exact ⟨_, rfl, i1⟩
  · rw [show opc (-124 : Int32) = 11 from by decide, u_X12_worked, if_neg (show ¬ (11 : Int32) = 2 from by decide), if_neg (show ¬ (11 : Int32) = 3 from by decide), if_neg (show ¬ (11 : Int32) = 4 from by decide), if_neg (show ¬ (11 : Int32) = 5 from by decide), if_neg (show ¬ (11 : Int32) = 6 from by decide), if_neg (show ¬ (11 : Int32) = 7 from by decide), if_neg (show ¬ (11 : Int32) = 8 from by decide), if_neg (show ¬ (11 : Int32) = 9 from by decide), if_neg (show ¬ (11 : Int32) = 10 from by decide), opv_124]
    by_cases h1 : a.toInt = 0
    · rw [if_pos ((cz a).mpr h1)]
      by_cases h2 : b.toInt = 0
      · rw [if_pos ((cz b).mpr h2), if_pos ⟨h1, h2⟩]
        exact ⟨_, rfl, i0⟩
      · rw [if_neg (fun w => h2 ((cz b).mp w)), if_neg (by omega)]
        exact ⟨_, rfl, i1⟩
    · rw [if_neg (fun w => h1 ((cz a).mp w)), if_neg (by omega)]
      exact ⟨_, rfl, i1⟩
theorem opc_ne {t : Int32} (h : t = -43 ∨ t = -45 ∨ t = -42 ∨ t = -47 ∨ t = -60 ∨ t = -61 ∨ t = -62 ∨ t = -38 ∨ t = -124) : opc t ≠ 0 ∧ opc t ≠ 1 ∧ opc t ≠ 9 := by
  rcases h with h | h | h | h | h | h | h | h | h <;> subst h <;> decide
theorem TC_op {t : Int32} {ts ts' : List Bool} (h : ((t = -43 ∨ t = -45 ∨ t = -42 ∨ t = -47) ∧ ∃ r, ts = false :: false :: r ∧ ts' = false :: r) ∨ ((t = -60 ∨ t = -61 ∨ t = -62) ∧ ∃ r, ts = false :: false :: r ∧ ts' = true :: r) ∨ ((t = -38 ∨ t = -124) ∧ ∃ r, ts = true :: true :: r ∧ ts' = true :: r)) : (t = -43 ∨ t = -45 ∨ t = -42 ∨ t = -47 ∨ t = -60 ∨ t = -61 ∨ t = -62 ∨ t = -38 ∨ t = -124) ∧ ∃ b1 b2 r, ts = b1 :: b2 :: r := by
  rcases h with ⟨h1, r, rfl, _⟩ | ⟨h1, r, rfl, _⟩ | ⟨h1, r, rfl, _⟩
  · exact ⟨by rcases h1 with g | g | g | g <;> simp [g], _, _, r, rfl⟩
  · exact ⟨by rcases h1 with g | g | g <;> simp [g], _, _, r, rfl⟩
  · exact ⟨by rcases h1 with g | g <;> simp [g], _, _, r, rfl⟩
theorem tyR_c {t : Int32} {l : List Int32} {ts ts' : List Bool} (h : tyR (t :: l) ts = some ts') : ts.length < 60 ∧ ∃ u, TC t ts u ∧ tyR l u = some ts' := by
  unfold tyR at h
  by_cases h1 : ts.length < 60
  · rw [if_pos h1] at h
    cases hu : tyS t ts with
    | none => rw [hu] at h; cases h
    | some u => rw [hu] at h; exact ⟨h1, u, tyS_c hu, h⟩
  · rw [if_neg h1] at h; cases h
theorem L_wo {q : Nat} (hq : q ≤ 2600) {y1 y3 : Int32} (hy : (520 : Int32) * y1 + y3 = nI q) (d : Nat) {e : Nat → Int} (he : EB e) {ts' : List Bool} : ∀ (l : List Int32) (p f : Nat) (ts : List Bool) (st : List Int) (M : mmM), RTk (mm_I M 62) (mm_I M 63) p l → p + l.length = q → tyR l ts = some ts' → OKS ts st → PS (mm_I M 70) st → ME M e → l.length < f → ∃ M1, lp_X12_workOut n xs N (d + 3) f 12 [some (.ref 60), some (.int y1), none, some (.int y3), some (.int (nI st.length)), some (.int (nI p))] [] M = some (some (.int (mm_I M1 70 0)), M1) ∧ PM M M1 ∧ PS (mm_I M1 70) (runL e l st) ∧ OKS ts' (runL e l st) := by
  obtain ⟨c1, hc1⟩ : ∃ c : Int32, c = -1 := ⟨_, rfl⟩
  intro l
  induction l with
  | nil =>
    intro p f ts st M hr hp ht ho hs hm hf
    obtain ⟨f, rfl⟩ : ∃ g, f = g + 1 := ⟨f - 1, by omega⟩
    rw [lu_wo hc1, hy, if_pos (by rw [← hp]; exact Int32.le_refl _)]
    exact ⟨M, rfl, PM.rf, hs, by rw [← Option.some.inj ht]; exact ho⟩
  | cons t l ih =>
    intro p f ts st M hr hp ht ho hs hm hf
    obtain ⟨f, rfl⟩ : ∃ g, f = g + 1 := ⟨f - 1, by omega⟩
    rw [List.length_cons] at hp hf
    obtain ⟨hl, u, hc, hu⟩ := tyR_c ht
    have hl' := OKS_len ho
    obtain ⟨hk, hr⟩ := hr
    have hns := OKS_stp he hc ho
    have go : ∀ M2 : mmM, PM M M2 → PS (mm_I M2 70) (stp e t st) → ∃ M1, lp_X12_workOut n xs N (d + 3) f 12 [some (.ref 60), some (.int y1), none, some (.int y3), some (.int (nI (stp e t st).length)), some (.int (nI (p + 1)))] [] M2 = some (some (.int (mm_I M1 70 0)), M1) ∧ PM M M1 ∧ PS (mm_I M1 70) (runL e (t :: l) st) ∧ OKS ts' (runL e (t :: l) st) := by
      intro M2 g1 g2
      obtain ⟨M1, f1, f2, f3, f4⟩ := ih (p + 1) f u (stp e t st) M2 (by rw [g1.2.2.2.2.2 62 (by decide), g1.2.2.2.2.2 63 (by decide)]; exact hr) (by omega) hu hns g2 (hm.pm g1) (by omega)
      exact ⟨M1, f1, g1.tr f2, f3, f4⟩
    rw [lu_wo hc1, hy, if_neg (show ¬ nI q ≤ nI p from fun w => by have := (nI_leI (by omega) (by omega)).mp w; omega), mm_inb_nI (by omega) (by omega), nI_clamp (by omega)]
    simp only [cond_true, nI_1]
    rcases hc with ⟨h1, h2, rfl⟩ | ⟨h1, rfl, h3⟩ | ⟨rfl, r, rfl, rfl⟩ | h
    · have hk' : mm_I M 62 p = 0 ∧ mm_I M 63 p = t := by
        rcases hk with hk | hk | hk
        · exact hk.2
        · omega
        · omega
      rw [hk'.1, hk'.2, if_pos rfl, if_pos rfl, mm_inb_nI (by omega) (by omega), nI_clamp (by omega)]
      simp only [Bool.true_and, show Nat.ble 16 70 = true from rfl, cond_true]
      have e1 := stp_num (e := e) (st := st) h1
      rw [e1] at go
      exact go _ PM.w ⟨by rw [I_s, if_pos rfl], PS_cg (fun i hi => by rw [I_s, if_neg (by omega)]) hs⟩
    · have hk' : ∃ i, ltr t = some i ∧ mm_I M 62 p = 1 ∧ mm_I M 63 p = nI i := by
        rcases hk with hk | hk | hk
        · omega
        · exact hk.2
        · have : ∃ i, ltr t = some i := by rcases h3 with g | g | g | g | g | g <;> subst g <;> exact ⟨_, rfl⟩
          obtain ⟨i, hi⟩ := this
          rw [hk.2.1] at hi; cases hi
      obtain ⟨i, k1, k2, k3⟩ := hk'
      have hi : i < 6 := by
        rcases h3 with g | g | g | g | g | g <;> subst g <;> (have := Option.some.inj k1; omega)
      rw [k2, k3, if_neg (by decide), if_pos rfl, if_neg (by decide), mm_inb_nI hi (by omega), mm_inb_nI (by omega) (by omega), nI_clamp (by omega), nI_clamp (by omega)]
      simp only [Bool.true_and, show Nat.ble 16 70 = true from rfl, cond_true]
      have e1 := stp_ltr (e := e) (st := st) h1 k1
      rw [e1] at go
      exact go _ PM.w ⟨by rw [I_s, if_pos rfl]; exact hm i hi, PS_cg (fun i hi => by rw [I_s, if_neg (by omega)]) hs⟩
    · have hk' : mm_I M 62 p = 9 := by
        rcases hk with hk | hk | hk
        · exact absurd hk.1 (by decide)
        · obtain ⟨_, i, w, _⟩ := hk; cases w
        · exact hk.2.2
      obtain ⟨v, s, rfl, b1, b2, b3⟩ := OKS_c ho
      rw [List.length_cons, List.length_cons] at hl'
      rw [List.length_cons] at hl
      rw [List.length_cons, nI_pred, hk', if_neg (by decide), if_neg (by decide), if_pos rfl, mm_inb_nI (by omega) (by omega), nI_clamp (by omega)]
      simp only [Bool.true_and, show Nat.ble 16 70 = true from rfl, cond_true]
      rw [stp_not] at go
      have i1 : (1 : Int32).toInt = 1 := by decide
      have hps : PS (mm_I (mm_wI M 70 s.length (1 - mm_I M 70 s.length)) 70) ((1 - v) :: s) := ⟨by rw [I_s, if_pos rfl, t_sub (by rw [hs.1, i1]; omega) (by rw [hs.1, i1]; omega), hs.1, i1], PS_cg (fun i hi => by rw [I_s, if_neg (by omega)]) hs.2⟩
      exact go _ PM.w hps
    · obtain ⟨ho2, k1, k2, r, rfl⟩ := TC_op h
      have hk' : mm_I M 62 p = opc t := by
        rcases hk with hk | hk | hk
        · have := (op_of ho2).1; omega
        · obtain ⟨_, i, w, _⟩ := hk; rw [(op_of ho2).2.1] at w; cases w
        · exact hk.2.2
      obtain ⟨n0, n1, n9⟩ := opc_ne ho2
      obtain ⟨b, s, rfl, b1, b2, b3⟩ := OKS_c ho
      obtain ⟨a, s, rfl, a1, a2, a3⟩ := OKS_c b3
      rw [List.length_cons, List.length_cons, List.length_cons, List.length_cons] at hl'
      rw [List.length_cons, List.length_cons] at hl
      rw [List.length_cons, List.length_cons, show nI (s.length + 1 + 1) + c1 = nI (s.length + 1) from by rw [hc1, ← Int32.sub_eq_add_neg, nI_pred], hk', if_neg n0, if_neg n1, if_neg n9, nI_pred, mm_inb_nI (by omega) (by omega), mm_inb_nI (by omega) (by omega), nI_clamp (by omega), nI_clamp (by omega)]
      simp only [Bool.true_and, show Nat.ble 16 70 = true from rfl, cond_true]
      obtain ⟨r2, g1, g2⟩ := E_worked (n := n) (xs := xs) (N := N) (M := M) d (a := mm_I M 70 s.length) (b := mm_I M 70 (s.length + 1)) ho2 (by rw [hs.2.1]; exact a1) (by have := hs.1; rw [List.length_cons] at this; rw [this]; exact b1)
      (rw [g1, ra_I]; simp only [Option.bind_some])
      rw [stp_op ho2] at go
      have hs1 := hs.1
      rw [List.length_cons] at hs1
      have hps : PS (mm_I (mm_wI M 70 s.length r2) 70) (opv t a b :: s) := ⟨by rw [I_s, if_pos rfl, g2, hs.2.1, hs1], PS_cg (fun i hi => by rw [I_s, if_neg (by omega)]) hs.2.2⟩
      exact go _ PM.w hps
end LM
