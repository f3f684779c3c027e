/-- long sums of held numbers -/
theorem l_add {a b : Int64} (ha : -1000000 ≤ a.toInt ∧ a.toInt ≤ 1000000) (hb : -1000000 ≤ b.toInt ∧ b.toInt ≤ 1000000) : (a + b).toInt = a.toInt + b.toInt := by
  rw [Int64.toInt_add]; exact Int.bmod_eq_of_le (by omega) (by omega)
theorem l_sub {a b : Int64} (ha : -1000000 ≤ a.toInt ∧ a.toInt ≤ 1000000) (hb : -1000000 ≤ b.toInt ∧ b.toInt ≤ 1000000) : (a - b).toInt = a.toInt - b.toInt := by
  rw [Int64.toInt_sub]; exact Int.bmod_eq_of_le (by omega) (by omega)
theorem mul_bd {a b c : Int} (hc : 0 ≤ c) (ha : -c ≤ a ∧ a ≤ c) (hb : -c ≤ b ∧ b ≤ c) : -(c * c) ≤ a * b ∧ a * b ≤ c * c := by
  have h1 : (a * b).natAbs ≤ (c * c).natAbs := by
    rw [Int.natAbs_mul, Int.natAbs_mul]
    exact Nat.mul_le_mul (by omega) (by omega)
  have h2 : 0 ≤ c * c := Int.mul_nonneg hc hc
  omega
theorem l_mul {a b : Int64} (ha : -1000000 ≤ a.toInt ∧ a.toInt ≤ 1000000) (hb : -1000000 ≤ b.toInt ∧ b.toInt ≤ 1000000) : (a * b).toInt = a.toInt * b.toInt := by
  have := mul_bd (c := 1000000) (by omega) ha hb
  rw [Int64.toInt_mul]; exact Int.bmod_eq_of_le (by omega) (by omega)
theorem tdiv_bd {a b c : Int} (ha : -c ≤ a ∧ a ≤ c) : -c ≤ a.tdiv b ∧ a.tdiv b ≤ c := by
  have h1 : (a.tdiv b).natAbs ≤ a.natAbs := by
    rw [Int.natAbs_tdiv]; exact Nat.div_le_self _ _
  omega
theorem l_div {a b : Int64} (ha : -1000000 ≤ a.toInt ∧ a.toInt ≤ 1000000) : (a / b).toInt = a.toInt.tdiv b.toInt := by
  have := tdiv_bd (b := b.toInt) ha
  rw [Int64.toInt_div]; exact Int.bmod_eq_of_le (by omega) (by omega)
/-- a number held, as long -/
theorem hold_v {x A B m r : Int64} (hA : A.toInt = 1000000) (hB : B.toInt = -1000000) (hm : m = if 0 < lg_cmp A x then x else A) (hr : r = if lg_cmp B m < 0 then m else B) : r.toInt32.toInt = hlN x.toInt := by
  have hb : r.toInt = hlN x.toInt := by
    unfold hlN
    by_cases h1 : 0 < lg_cmp A x
    · rw [if_pos h1] at hm
      have g1 := Int64.lt_iff_toInt_lt.mp ((lg_cmp_gt _ _).mp h1)
      subst hm
      by_cases h2 : lg_cmp B m < 0
      · rw [if_pos h2] at hr
        have g2 := Int64.lt_iff_toInt_lt.mp ((lg_cmp_lt _ _).mp h2)
        rw [hr, if_neg (by omega), if_neg (by omega)]
      · rw [if_neg h2] at hr
        have g2 : ¬ B.toInt < m.toInt := fun w => h2 ((lg_cmp_lt _ _).mpr (Int64.lt_iff_toInt_lt.mpr w))
        rw [hr, hB]
        split
        · rfl
        · rw [if_neg (by omega)]; omega
    · rw [if_neg h1] at hm
      have g1 : ¬ x.toInt < A.toInt := fun w => h1 ((lg_cmp_gt _ _).mpr (Int64.lt_iff_toInt_lt.mpr w))
      subst hm
      have h2 : lg_cmp B m < 0 := (lg_cmp_lt _ _).mpr (Int64.lt_iff_toInt_lt.mpr (by omega))
      rw [if_pos h2] at hr
      rw [hr, hA, if_neg (by omega)]
      split
      · rfl
      · omega
  have := hlN_bd x.toInt
  rw [Int64.toInt_toInt32, hb]
  exact Int.bmod_eq_of_le (by omega) (by omega)
theorem opv_43 (a b : Int) : opv (-43) a b = hlN (a + b) := by
  unfold opv
  rw [if_pos rfl]
theorem opv_45 (a b : Int) : opv (-45) a b = hlN (a - b) := by
  unfold opv
  rw [if_neg (show ¬ (-45 : Int32) = -43 from by decide), if_pos rfl]
theorem opv_42 (a b : Int) : opv (-42) a b = hlN (a * b) := by
  unfold opv
  rw [if_neg (show ¬ (-42 : Int32) = -43 from by decide), if_neg (show ¬ (-42 : Int32) = -45 from by decide), if_pos rfl]
theorem opv_47 (a b : Int) : opv (-47) a b = (if b = 0 then 0 else hlN (a.tdiv b)) := by
  unfold opv
  rw [if_neg (show ¬ (-47 : Int32) = -43 from by decide), if_neg (show ¬ (-47 : Int32) = -45 from by decide), if_neg (show ¬ (-47 : Int32) = -42 from by decide), if_pos rfl]
theorem opv_60 (a b : Int) : opv (-60) a b = (if a < b then 1 else 0) := by
  unfold opv
  rw [if_neg (show ¬ (-60 : Int32) = -43 from by decide), if_neg (show ¬ (-60 : Int32) = -45 from by decide), if_neg (show ¬ (-60 : Int32) = -42 from by decide), if_neg (show ¬ (-60 : Int32) = -47 from by decide), if_pos rfl]
theorem opv_61 (a b : Int) : opv (-61) a b = (if a = b then 1 else 0) := by
  unfold opv
  rw [if_neg (show ¬ (-61 : Int32) = -43 from by decide), if_neg (show ¬ (-61 : Int32) = -45 from by decide), if_neg (show ¬ (-61 : Int32) = -42 from by decide), if_neg (show ¬ (-61 : Int32) = -47 from by decide), if_neg (show ¬ (-61 : Int32) = -60 from by decide), if_pos rfl]
theorem opv_62 (a b : Int) : opv (-62) a b = (if b < a then 1 else 0) := by
  unfold opv
  rw [if_neg (show ¬ (-62 : Int32) = -43 from by decide), if_neg (show ¬ (-62 : Int32) = -45 from by decide), if_neg (show ¬ (-62 : Int32) = -42 from by decide), if_neg (show ¬ (-62 : Int32) = -47 from by decide), if_neg (show ¬ (-62 : Int32) = -60 from by decide), if_neg (show ¬ (-62 : Int32) = -61 from by decide), if_pos rfl]
theorem opv_38 (a b : Int) : opv (-38) a b = (if a = 0 ∨ b = 0 then 0 else 1) := by
  unfold opv
  rw [if_neg (show ¬ (-38 : Int32) = -43 from by decide), if_neg (show ¬ (-38 : Int32) = -45 from by decide), if_neg (show ¬ (-38 : Int32) = -42 from by decide), if_neg (show ¬ (-38 : Int32) = -47 from by decide), if_neg (show ¬ (-38 : Int32) = -60 from by decide), if_neg (show ¬ (-38 : Int32) = -61 from by decide), if_neg (show ¬ (-38 : Int32) = -62 from by decide), if_pos rfl]
theorem opv_124 (a b : Int) : opv (-124) a b = (if a = 0 ∧ b = 0 then 0 else 1) := by
  unfold opv
  rw [if_neg (show ¬ (-124 : Int32) = -43 from by decide), if_neg (show ¬ (-124 : Int32) = -45 from by decide), if_neg (show ¬ (-124 : Int32) = -42 from by decide), if_neg (show ¬ (-124 : Int32) = -47 from by decide), if_neg (show ¬ (-124 : Int32) = -60 from by decide), if_neg (show ¬ (-124 : Int32) = -61 from by decide), if_neg (show ¬ (-124 : Int32) = -62 from by decide), if_neg (show ¬ (-124 : Int32) = -38 from by decide)]
/-- the class's pile alone has been at work -/
def PX (M M' : mmM) : Prop := M'.1 = M.1 ∧ M'.2.1 = M.2.1 ∧ M'.2.2.1 = M.2.2.1 ∧ M'.2.2.2.2.1 = M.2.2.2.2.1 ∧ M'.2.2.2.2.2 = M.2.2.2.2.2 ∧ (∀ a, a ≠ 25 → a ≠ 31 → mm_I M' a = mm_I M a) ∧ ∀ k, k ≠ 4 → mm_I M' 25 k = mm_I M 25 k
theorem PX.rf {M : mmM} : PX M M := ⟨rfl, rfl, rfl, rfl, rfl, fun _ _ _ => rfl, fun _ _ => rfl⟩
theorem PX.tr {M M' M'' : mmM} (h : PX M M') (g : PX M' M'') : PX M M'' := ⟨g.1.trans h.1, g.2.1.trans h.2.1, g.2.2.1.trans h.2.2.1, g.2.2.2.1.trans h.2.2.2.1, g.2.2.2.2.1.trans h.2.2.2.2.1, fun a a1 a2 => (g.2.2.2.2.2.1 a a1 a2).trans (h.2.2.2.2.2.1 a a1 a2), fun k hk => (g.2.2.2.2.2.2 k hk).trans (h.2.2.2.2.2.2 k hk)⟩
theorem PX.w4 {M : mmM} {v : Int32} : PX M (mm_wI M 25 4 v) := ⟨rfl, rfl, rfl, rfl, rfl, fun a a1 _ => I_wn a1, fun k hk => by rw [I_s, if_neg hk]⟩
theorem PX.w31 {M : mmM} {k : Nat} {v : Int32} : PX M (mm_wI M 31 k v) := ⟨rfl, rfl, rfl, rfl, rfl, fun a _ a2 => I_wn a2, fun k _ => by rw [I_wn (by decide)]⟩
/-- the class's pile -/
def CPl (M : mmM) (st : List Int) : Prop := mm_I M 25 4 = nI st.length ∧ PS (mm_I M 31) st
section LX
variable {n : Nat} {xs : Nat → Int32} {N : Nat} {M : mmM}
theorem E_push (d : Nat) {x : Int64} {st : List Int} (hc : CPl M st) (hl : st.length < 62) : ∃ M1, mm_E n xs N (d + 2) 40 [.ref 25, .long x] M = some (none, M1) ∧ PX M M1 ∧ CPl M1 (hlN x.toInt :: st) := by
  obtain ⟨h1, h2⟩ := hc
  rw [u_X4_push, h1, if_neg (nI_pos (by omega)), if_neg (show ¬ Int32.ofNat 64 ≤ nI st.length from fun w => by have := (nI_leI (a := 64) (by omega) (by omega)).mp w; omega)]
  have hA : (1000000 : Int64).toInt = 1000000 := by decide
  have hB : (-1000000 : Int64).toInt = -1000000 := by decide
  generalize (-1000000 : Int64) = B at hB ⊢
  generalize (1000000 : Int64) = A at hA ⊢
  have e1 : mm_E n xs N (d + 1) 305 [.long A, .long x] M = some (some (.long (if 0 < lg_cmp A x then x else A)), M) := by rw [u_J9_min_f86c9]; split <;> rfl
  generalize hm : (if 0 < lg_cmp A x then x else A) = m at e1
  have e2 : mm_E n xs N (d + 1) 303 [.long B, .long m] M = some (some (.long (if lg_cmp B m < 0 then m else B)), M) := by rw [u_J9_max_f86c9]; split <;> rfl
  generalize hr : (if lg_cmp B m < 0 then m else B) = r at e2
  have hv := hold_v hA hB hm.symm hr.symm
  (rw [e1, ra_J]; simp only [Option.bind_some])
  (rw [e2, ra_J]; simp only [Option.bind_some])
  rw [mm_inb_nI (by omega) (by omega), nI_clamp (by omega), h1]
  refine ⟨_, rfl, PX.w31.tr PX.w4, ?_, ?_⟩
  · rw [I_s, if_pos rfl, nI_1, List.length_cons]
  · rw [I_wn (by decide)]
    refine ⟨?_, ?_⟩
    · rw [I_s, if_pos rfl]; exact hv
    · refine PS_cg (fun i hi => ?_) h2
      rw [I_s, if_neg (by omega)]
theorem E_popC (d : Nat) {v : Int} {st : List Int} (hc : CPl M (v :: st)) (hl : st.length < 62) : ∃ M1 x, mm_E n xs N (d + 1) 41 [.ref 25] M = some (some (.int x), M1) ∧ x.toInt = v ∧ PX M M1 ∧ CPl M1 st := by
  obtain ⟨h1, h2, h3⟩ := hc
  rw [List.length_cons] at h1
  rw [u_X4_pop, h1, if_neg (nI_nle (by omega) (by omega)), if_pos (show nI (st.length + 1) ≤ Int32.ofNat 64 from (nI_leI (b := 64) (by omega) (by omega)).mpr (by omega)), nI_pred, mm_inb_nI (by omega) (by omega), nI_clamp (by omega)]
  exact ⟨_, _, rfl, h2, PX.w4, by rw [I_s, if_pos rfl], by rw [I_wn (by decide)]; exact h3⟩
theorem hl0 : hlN (0 : Int64).toInt = 0 := by decide
theorem hl1 : hlN (1 : Int64).toInt = 1 := by decide
theorem E_join (d : Nat) {t a b : Int32} (h : t = -43 ∨ t = -45 ∨ t = -42 ∨ t = -47 ∨ t = -60 ∨ t = -61 ∨ t = -62 ∨ t = -38 ∨ t = -124) (ha : -1000000 ≤ a.toInt ∧ a.toInt ≤ 1000000) (hb : -1000000 ≤ b.toInt ∧ b.toInt ≤ 1000000) (ht : (t = -38 ∨ t = -124) → (a.toInt = 0 ∨ a.toInt = 1) ∧ (b.toInt = 0 ∨ b.toInt = 1)) : ∃ r : Int64, mm_E n xs N (d + 1) 43 [.int (-t), .long a.toInt64, .long b.toInt64] M = some (some (.long r), M) ∧ hlN r.toInt = opv t a.toInt b.toInt := by
  have ca : a.toInt64.toInt = a.toInt := Int32.toInt_toInt64 a
  have cb : b.toInt64.toInt = b.toInt := Int32.toInt_toInt64 b
  have ha' : -1000000 ≤ a.toInt64.toInt ∧ a.toInt64.toInt ≤ 1000000 := by rw [ca]; exact ha
  have hb' : -1000000 ≤ b.toInt64.toInt ∧ b.toInt64.toInt ≤ 1000000 := by rw [cb]; exact hb
  rcases h with h | h | h | h | h | h | h | h | h <;> subst h
  · rw [show -(-43 : Int32) = 43 from by decide, u_X4_joined, if_neg (show ¬ (43 : Int32) = 38 from by decide), if_neg (show ¬ (43 : Int32) = 42 from by decide), if_pos rfl]
    exact ⟨_, rfl, by rw [l_add ha' hb', ca, cb, opv_43]⟩
  · rw [show -(-45 : Int32) = 45 from by decide, u_X4_joined, if_neg (show ¬ (45 : Int32) = 38 from by decide), if_neg (show ¬ (45 : Int32) = 42 from by decide), if_neg (show ¬ (45 : Int32) = 43 from by decide), if_pos rfl]
    exact ⟨_, rfl, by rw [l_sub ha' hb', ca, cb, opv_45]⟩
  · rw [show -(-42 : Int32) = 42 from by decide, u_X4_joined, if_neg (show ¬ (42 : Int32) = 38 from by decide), if_pos rfl]
    exact ⟨_, rfl, by rw [l_mul ha' hb', ca, cb, opv_42]⟩
  · rw [show -(-47 : Int32) = 47 from by decide, u_X4_joined, if_neg (show ¬ (47 : Int32) = 38 from by decide), if_neg (show ¬ (47 : Int32) = 42 from by decide), if_neg (show ¬ (47 : Int32) = 43 from by decide), if_neg (show ¬ (47 : Int32) = 45 from by decide), if_pos rfl]
    have z0 : (0 : Int64).toInt = 0 := by decide
    rw [opv_47]
    by_cases hz : b.toInt = 0
    · rw [if_pos ((lg_cmp_eq _ _).mpr (Int64.toInt_inj.mp (by rw [cb, hz, z0]))), if_pos hz]
      exact ⟨_, rfl, hl0⟩
    · have hz' : ¬ b.toInt64 = 0 := fun w => hz (by rw [← cb, w, z0])
      rw [if_neg (fun w => hz' ((lg_cmp_eq _ _).mp w)), if_neg hz', if_neg hz]
      exact ⟨_, rfl, by rw [l_div ha', ca, cb]⟩
  · rw [show -(-60 : Int32) = 60 from by decide, u_X4_joined, if_neg (show ¬ (60 : Int32) = 38 from by decide), if_neg (show ¬ (60 : Int32) = 42 from by decide), if_neg (show ¬ (60 : Int32) = 43 from by decide), if_neg (show ¬ (60 : Int32) = 45 from by decide), if_neg (show ¬ (60 : Int32) = 47 from by decide), if_pos rfl]
    rw [opv_60]
    by_cases hz : a.toInt < b.toInt
    · rw [if_neg (fun w => by have := Int64.le_iff_toInt_le.mp ((lg_cmp_ge _ _).mp w); omega), if_pos hz]
      exact ⟨_, rfl, hl1⟩
    · rw [if_pos ((lg_cmp_ge _ _).mpr (Int64.le_iff_toInt_le.mpr (by omega))), if_neg hz]
      exact ⟨_, rfl, hl0⟩
  · rw [show -(-61 : Int32) = 61 from by decide, u_X4_joined, if_neg (show ¬ (61 : Int32) = 38 from by decide), if_neg (show ¬ (61 : Int32) = 42 from by decide), if_neg (show ¬ (61 : Int32) = 43 from by decide), if_neg (show ¬ (61 : Int32) = 45 from by decide), if_neg (show ¬ (61 : Int32) = 47 from by decide), if_neg (show ¬ (61 : Int32) = 60 from by decide), if_pos rfl]
    rw [opv_61]
    by_cases hz : a.toInt = b.toInt
    · rw [if_pos ((lg_cmp_eq _ _).mpr (Int64.toInt_inj.mp (by omega))), if_pos hz]
      exact ⟨_, rfl, hl1⟩
    · rw [if_neg (fun w => hz (by rw [← ca, ← cb, (lg_cmp_eq _ _).mp w])), if_neg hz]
      exact ⟨_, rfl, hl0⟩
  · rw [show -(-62 : Int32) = 62 from by decide, u_X4_joined, if_neg (show ¬ (62 : Int32) = 38 from by decide), if_neg (show ¬ (62 : Int32) = 42 from by decide), if_neg (show ¬ (62 : Int32) = 43 from by decide), if_neg (show ¬ (62 : Int32) = 45 from by decide), if_neg (show ¬ (62 : Int32) = 47 from by decide), if_neg (show ¬ (62 : Int32) = 60 from by decide), if_neg (show ¬ (62 : Int32) = 61 from by decide), if_pos rfl]
    rw [opv_62]
    by_cases hz : b.toInt < a.toInt
    · rw [if_neg (fun w => by have := Int64.le_iff_toInt_le.mp ((lg_cmp_le _ _).mp w); omega), if_pos hz]
      exact ⟨_, rfl, hl1⟩
    · rw [if_pos ((lg_cmp_le _ _).mpr (Int64.le_iff_toInt_le.mpr (by omega))), if_neg hz]
      exact ⟨_, rfl, hl0⟩
  · rw [show -(-38 : Int32) = 38 from by decide, u_X4_joined, if_pos rfl]
    obtain ⟨g1, g2⟩ := ht (Or.inl rfl)
    have e0 : (0 : Int32).toInt = 0 := by decide
    have e1 : (1 : Int32).toInt = 1 := by decide
    rcases g1 with g1 | g1 <;> rcases g2 with g2 | g2
    · obtain rfl : a = 0 := Int32.toInt_inj.mp (g1.trans e0.symm)
      obtain rfl : b = 0 := Int32.toInt_inj.mp (g2.trans e0.symm)
      exact ⟨_, rfl, by decide⟩
    · obtain rfl : a = 0 := Int32.toInt_inj.mp (g1.trans e0.symm)
      obtain rfl : b = 1 := Int32.toInt_inj.mp (g2.trans e1.symm)
      exact ⟨_, rfl, by decide⟩
    · obtain rfl : a = 1 := Int32.toInt_inj.mp (g1.trans e1.symm)
      obtain rfl : b = 0 := Int32.toInt_inj.mp (g2.trans e0.symm)
      exact ⟨_, rfl, by decide⟩
    · obtain rfl : a = 1 := Int32.toInt_inj.mp (g1.trans e1.symm)
      obtain rfl : b = 1 := Int32.toInt_inj.mp (g2.trans e1.symm)
      exact ⟨_, rfl, by decide⟩
  · rw [show -(-124 : Int32) = 124 from by decide, u_X4_joined, if_neg (show ¬ (124 : Int32) = 38 from by decide), if_neg (show ¬ (124 : Int32) = 42 from by decide), if_neg (show ¬ (124 : Int32) = 43 from by decide), if_neg (show ¬ (124 : Int32) = 45 from by decide), if_neg (show ¬ (124 : Int32) = 47 from by decide), if_neg (show ¬ (124 : Int32) = 60 from by decide), if_neg (show ¬ (124 : Int32) = 61 from by decide), if_neg (show ¬ (124 : Int32) = 62 from by decide), if_pos rfl]
    obtain ⟨g1, g2⟩ := ht (Or.inr rfl)
    have e0 : (0 : Int32).toInt = 0 := by decide
    have e1 : (1 : Int32).toInt = 1 := by decide
    rcases g1 with g1 | g1 <;> rcases g2 with g2 | g2
    · obtain rfl : a = 0 := Int32.toInt_inj.mp (g1.trans e0.symm)
      obtain rfl : b = 0 := Int32.toInt_inj.mp (g2.trans e0.symm)
      exact ⟨_, rfl, by decide⟩
    · obtain rfl : a = 0 := Int32.toInt_inj.mp (g1.trans e0.symm)
      obtain rfl : b = 1 := Int32.toInt_inj.mp (g2.trans e1.symm)
      exact ⟨_, rfl, by decide⟩
    · obtain rfl : a = 1 := Int32.toInt_inj.mp (g1.trans e1.symm)
      obtain rfl : b = 0 := Int32.toInt_inj.mp (g2.trans e0.symm)
      exact ⟨_, rfl, by decide⟩
    · obtain rfl : a = 1 := Int32.toInt_inj.mp (g1.trans e1.symm)
      obtain rfl : b = 1 := Int32.toInt_inj.mp (g2.trans e1.symm)
      exact ⟨_, rfl, by decide⟩
theorem ap_97 (d : Nat) : mm_E n xs N (d + 1) 42 [.ref 25, .int (-(-97))] M = (mm_aV (mm_E n xs N d 40 [.ref 25, .long ((mm_I M 25 9).toInt64)] M)).bind fun p4 => some (none, p4) := by
  rw [show -(-97 : Int32) = 97 from by decide, u_X4_apply, if_neg (show ¬ (97 : Int32) = 33 from by decide), if_pos rfl]
theorem ap_99 (d : Nat) : mm_E n xs N (d + 1) 42 [.ref 25, .int (-(-99))] M = (mm_aV (mm_E n xs N d 40 [.ref 25, .long ((mm_I M 25 10).toInt64)] M)).bind fun p4 => some (none, p4) := by
  rw [show -(-99 : Int32) = 99 from by decide, u_X4_apply, if_neg (show ¬ (99 : Int32) = 33 from by decide), if_neg (show ¬ (99 : Int32) = 97 from by decide), if_pos rfl]
theorem ap_110 (d : Nat) : mm_E n xs N (d + 1) 42 [.ref 25, .int (-(-110))] M = (mm_aV (mm_E n xs N d 40 [.ref 25, .long ((mm_I M 25 7).toInt64)] M)).bind fun p4 => some (none, p4) := by
  rw [show -(-110 : Int32) = 110 from by decide, u_X4_apply, if_neg (show ¬ (110 : Int32) = 33 from by decide), if_neg (show ¬ (110 : Int32) = 97 from by decide), if_neg (show ¬ (110 : Int32) = 99 from by decide), if_pos rfl]
theorem ap_115 (d : Nat) : mm_E n xs N (d + 1) 42 [.ref 25, .int (-(-115))] M = (mm_aV (mm_E n xs N d 40 [.ref 25, .long ((mm_I M 25 6).toInt64)] M)).bind fun p4 => some (none, p4) := by
  rw [show -(-115 : Int32) = 115 from by decide, u_X4_apply, if_neg (show ¬ (115 : Int32) = 33 from by decide), if_neg (show ¬ (115 : Int32) = 97 from by decide), if_neg (show ¬ (115 : Int32) = 99 from by decide), if_neg (show ¬ (115 : Int32) = 110 from by decide), if_pos rfl]
theorem ap_119 (d : Nat) : mm_E n xs N (d + 1) 42 [.ref 25, .int (-(-119))] M = (mm_aV (mm_E n xs N d 40 [.ref 25, .long ((mm_I M 25 5).toInt64)] M)).bind fun p4 => some (none, p4) := by
  rw [show -(-119 : Int32) = 119 from by decide, u_X4_apply, if_neg (show ¬ (119 : Int32) = 33 from by decide), if_neg (show ¬ (119 : Int32) = 97 from by decide), if_neg (show ¬ (119 : Int32) = 99 from by decide), if_neg (show ¬ (119 : Int32) = 110 from by decide), if_neg (show ¬ (119 : Int32) = 115 from by decide), if_pos rfl]
theorem ap_121 (d : Nat) : mm_E n xs N (d + 1) 42 [.ref 25, .int (-(-121))] M = (mm_aV (mm_E n xs N d 40 [.ref 25, .long ((mm_I M 25 8).toInt64)] M)).bind fun p4 => some (none, p4) := by
  rw [show -(-121 : Int32) = 121 from by decide, u_X4_apply, if_neg (show ¬ (121 : Int32) = 33 from by decide), if_neg (show ¬ (121 : Int32) = 97 from by decide), if_neg (show ¬ (121 : Int32) = 99 from by decide), if_neg (show ¬ (121 : Int32) = 110 from by decide), if_neg (show ¬ (121 : Int32) = 115 from by decide), if_neg (show ¬ (121 : Int32) = 119 from by decide), if_pos rfl]
theorem ap_op (d : Nat) {t : Int32} (h : t = -43 ∨ t = -45 ∨ t = -42 ∨ t = -47 ∨ t = -60 ∨ t = -61 ∨ t = -62 ∨ t = -38 ∨ t = -124) : mm_E n xs N (d + 1) 42 [.ref 25, .int (-t)] M = ((mm_aI (mm_E n xs N d 41 [.ref 25] M)).bind fun p10 => ((mm_aI (mm_E n xs N d 41 [.ref 25] p10.2)).bind fun p11 => ((mm_aJ (mm_E n xs N d 43 [.int (-t), .long p11.1.toInt64, .long p10.1.toInt64] p11.2)).bind fun p12 => ((mm_aV (mm_E n xs N d 40 [.ref 25, .long p12.1] p12.2)).bind fun p13 => some (none, p13))))) := by
  rcases h with h | h | h | h | h | h | h | h | h <;> subst h
  · rw [show -(-43 : Int32) = 43 from by decide, u_X4_apply, if_neg (show ¬ (43 : Int32) = 33 from by decide), if_neg (show ¬ (43 : Int32) = 97 from by decide), if_neg (show ¬ (43 : Int32) = 99 from by decide), if_neg (show ¬ (43 : Int32) = 110 from by decide), if_neg (show ¬ (43 : Int32) = 115 from by decide), if_neg (show ¬ (43 : Int32) = 119 from by decide), if_neg (show ¬ (43 : Int32) = 121 from by decide)]
  · rw [show -(-45 : Int32) = 45 from by decide, u_X4_apply, if_neg (show ¬ (45 : Int32) = 33 from by decide), if_neg (show ¬ (45 : Int32) = 97 from by decide), if_neg (show ¬ (45 : Int32) = 99 from by decide), if_neg (show ¬ (45 : Int32) = 110 from by decide), if_neg (show ¬ (45 : Int32) = 115 from by decide), if_neg (show ¬ (45 : Int32) = 119 from by decide), if_neg (show ¬ (45 : Int32) = 121 from by decide)]
  · rw [show -(-42 : Int32) = 42 from by decide, u_X4_apply, if_neg (show ¬ (42 : Int32) = 33 from by decide), if_neg (show ¬ (42 : Int32) = 97 from by decide), if_neg (show ¬ (42 : Int32) = 99 from by decide), if_neg (show ¬ (42 : Int32) = 110 from by decide), if_neg (show ¬ (42 : Int32) = 115 from by decide), if_neg (show ¬ (42 : Int32) = 119 from by decide), if_neg (show ¬ (42 : Int32) = 121 from by decide)]
  · rw [show -(-47 : Int32) = 47 from by decide, u_X4_apply, if_neg (show ¬ (47 : Int32) = 33 from by decide), if_neg (show ¬ (47 : Int32) = 97 from by decide), if_neg (show ¬ (47 : Int32) = 99 from by decide), if_neg (show ¬ (47 : Int32) = 110 from by decide), if_neg (show ¬ (47 : Int32) = 115 from by decide), if_neg (show ¬ (47 : Int32) = 119 from by decide), if_neg (show ¬ (47 : Int32) = 121 from by decide)]
  · rw [show -(-60 : Int32) = 60 from by decide, u_X4_apply, if_neg (show ¬ (60 : Int32) = 33 from by decide), if_neg (show ¬ (60 : Int32) = 97 from by decide), if_neg (show ¬ (60 : Int32) = 99 from by decide), if_neg (show ¬ (60 : Int32) = 110 from by decide), if_neg (show ¬ (60 : Int32) = 115 from by decide), if_neg (show ¬ (60 : Int32) = 119 from by decide), if_neg (show ¬ (60 : Int32) = 121 from by decide)]
  · rw [show -(-61 : Int32) = 61 from by decide, u_X4_apply, if_neg (show ¬ (61 : Int32) = 33 from by decide), if_neg (show ¬ (61 : Int32) = 97 from by decide), if_neg (show ¬ (61 : Int32) = 99 from by decide), if_neg (show ¬ (61 : Int32) = 110 from by decide), if_neg (show ¬ (61 : Int32) = 115 from by decide), if_neg (show ¬ (61 : Int32) = 119 from by decide), if_neg (show ¬ (61 : Int32) = 121 from by decide)]
  · rw [show -(-62 : Int32) = 62 from by decide, u_X4_apply, if_neg (show ¬ (62 : Int32) = 33 from by decide), if_neg (show ¬ (62 : Int32) = 97 from by decide), if_neg (show ¬ (62 : Int32) = 99 from by decide), if_neg (show ¬ (62 : Int32) = 110 from by decide), if_neg (show ¬ (62 : Int32) = 115 from by decide), if_neg (show ¬ (62 : Int32) = 119 from by decide), if_neg (show ¬ (62 : Int32) = 121 from by decide)]
  · rw [show -(-38 : Int32) = 38 from by decide, u_X4_apply, if_neg (show ¬ (38 : Int32) = 33 from by decide), if_neg (show ¬ (38 : Int32) = 97 from by decide), if_neg (show ¬ (38 : Int32) = 99 from by decide), if_neg (show ¬ (38 : Int32) = 110 from by decide), if_neg (show ¬ (38 : Int32) = 115 from by decide), if_neg (show ¬ (38 : Int32) = 119 from by decide), if_neg (show ¬ (38 : Int32) = 121 from by decide)]
  · rw [show -(-124 : Int32) = 124 from by decide, u_X4_apply, if_neg (show ¬ (124 : Int32) = 33 from by decide), if_neg (show ¬ (124 : Int32) = 97 from by decide), if_neg (show ¬ (124 : Int32) = 99 from by decide), if_neg (show ¬ (124 : Int32) = 110 from by decide), if_neg (show ¬ (124 : Int32) = 115 from by decide), if_neg (show ¬ (124 : Int32) = 119 from by decide), if_neg (show ¬ (124 : Int32) = 121 from by decide)]
/-- what the letters stand for, the class -/
def XE (M : mmM) (e : Nat → Int) : Prop := ∀ i, i < 6 → (mm_I M 25 (5 + i)).toInt = e i
theorem XE.px {M' : mmM} {e : Nat → Int} (h : XE M e) (g : PX M M') : XE M' e := fun i hi => by rw [g.2.2.2.2.2.2 _ (by omega)]; exact h i hi
theorem E_tokL (d : Nat) {e : Nat → Int} (he : EB e) {t : Int32} {ts ts' : List Bool} {st : List Int} (h : TC t ts ts') (hn : t.toInt < 0) (ho : OKS ts st) (hl : ts.length < 60) (hx : XE M e) (hc : CPl M st) : ∃ M1, mm_E n xs N (d + 4) 42 [.ref 25, .int (-t)] M = some (none, M1) ∧ PX M M1 ∧ CPl M1 (stp e t st) := by
  have hl' := OKS_len ho
  have c6 : ∀ x : Int32, x.toInt64.toInt = x.toInt := Int32.toInt_toInt64
  rcases h with ⟨h1, h2, rfl⟩ | ⟨h1, rfl, h3⟩ | ⟨rfl, r, rfl, rfl⟩ | h
  · omega
  · rcases h3 with h | h | h | h | h | h <;> subst h
    · rw [ap_119]
      obtain ⟨M1, e1, e2, e3⟩ := E_push (n := n) (xs := xs) (N := N) (d + 1) (x := (mm_I M 25 5).toInt64) hc (by omega)
      (rw [e1, ra_V]; simp only [Option.bind_some])
      refine ⟨_, rfl, e2, ?_⟩
      rw [c6, hx 0 (by decide), hlN_id (he _).1 (he _).2] at e3
      exact e3
    · rw [ap_115]
      obtain ⟨M1, e1, e2, e3⟩ := E_push (n := n) (xs := xs) (N := N) (d + 1) (x := (mm_I M 25 6).toInt64) hc (by omega)
      (rw [e1, ra_V]; simp only [Option.bind_some])
      refine ⟨_, rfl, e2, ?_⟩
      rw [c6, hx 1 (by decide), hlN_id (he _).1 (he _).2] at e3
      exact e3
    · rw [ap_110]
      obtain ⟨M1, e1, e2, e3⟩ := E_push (n := n) (xs := xs) (N := N) (d + 1) (x := (mm_I M 25 7).toInt64) hc (by omega)
      (rw [e1, ra_V]; simp only [Option.bind_some])
      refine ⟨_, rfl, e2, ?_⟩
      rw [c6, hx 2 (by decide), hlN_id (he _).1 (he _).2] at e3
      exact e3
    · rw [ap_121]
      obtain ⟨M1, e1, e2, e3⟩ := E_push (n := n) (xs := xs) (N := N) (d + 1) (x := (mm_I M 25 8).toInt64) hc (by omega)
      (rw [e1, ra_V]; simp only [Option.bind_some])
      refine ⟨_, rfl, e2, ?_⟩
      rw [c6, hx 3 (by decide), hlN_id (he _).1 (he _).2] at e3
      exact e3
    · rw [ap_97]
      obtain ⟨M1, e1, e2, e3⟩ := E_push (n := n) (xs := xs) (N := N) (d + 1) (x := (mm_I M 25 9).toInt64) hc (by omega)
      (rw [e1, ra_V]; simp only [Option.bind_some])
      refine ⟨_, rfl, e2, ?_⟩
      rw [c6, hx 4 (by decide), hlN_id (he _).1 (he _).2] at e3
      exact e3
    · rw [ap_99]
      obtain ⟨M1, e1, e2, e3⟩ := E_push (n := n) (xs := xs) (N := N) (d + 1) (x := (mm_I M 25 10).toInt64) hc (by omega)
      (rw [e1, ra_V]; simp only [Option.bind_some])
      refine ⟨_, rfl, e2, ?_⟩
      rw [c6, hx 5 (by decide), hlN_id (he _).1 (he _).2] at e3
      exact e3
  · obtain ⟨v, s, rfl, b1, b2, b3⟩ := OKS_c ho
    rw [show -(-33 : Int32) = 33 from by decide, u_X4_apply, if_pos rfl]
    rw [List.length_cons, List.length_cons] at hl'
    rw [List.length_cons] at hl
    obtain ⟨M1, x, e1, e2, e3, e4⟩ := E_popC (n := n) (xs := xs) (N := N) (d + 2) hc (by omega)
    (rw [e1, ra_I]; simp only [Option.bind_some])
    rw [stp_not]
    rcases b2 rfl with w | w
    · rw [if_pos (Int32.toInt_inj.mp (by rw [e2, w]; rfl))]
      obtain ⟨M2, f1, f2, f3⟩ := E_push (n := n) (xs := xs) (N := N) (d + 1) (x := (1 : Int64)) e4 (by omega)
      (rw [f1, ra_V]; simp only [Option.bind_some])
      refine ⟨_, rfl, e3.tr f2, ?_⟩
      rw [hl1] at f3
      rw [w]; exact f3
    · rw [if_neg (fun q => by rw [q, w] at e2; exact absurd e2 (by decide))]
      obtain ⟨M2, f1, f2, f3⟩ := E_push (n := n) (xs := xs) (N := N) (d + 1) (x := (0 : Int64)) e4 (by omega)
      (rw [f1, ra_V]; simp only [Option.bind_some])
      refine ⟨_, rfl, e3.tr f2, ?_⟩
      rw [hl0] at f3
      rw [w]; exact f3
  · have hh : (t = -43 ∨ t = -45 ∨ t = -42 ∨ t = -47 ∨ t = -60 ∨ t = -61 ∨ t = -62 ∨ t = -38 ∨ t = -124) ∧ ∃ b1 b2 r, ts = b1 :: b2 :: r ∧ ((t = -38 ∨ t = -124) → b1 = true ∧ b2 = true) := by
      rcases h with ⟨h1, r, rfl, _⟩ | ⟨h1, r, rfl, _⟩ | ⟨h1, r, rfl, _⟩
      · exact ⟨by rcases h1 with g | g | g | g <;> simp [g], _, _, r, rfl, by rcases h1 with g | g | g | g <;> subst g <;> decide⟩
      · exact ⟨by rcases h1 with g | g | g <;> simp [g], _, _, r, rfl, by rcases h1 with g | g | g <;> subst g <;> decide⟩
      · exact ⟨by rcases h1 with g | g <;> simp [g], _, _, r, rfl, fun _ => ⟨rfl, rfl⟩⟩
    obtain ⟨ho2, k1, k2, r, rfl, hk⟩ := hh
    obtain ⟨b, s, rfl, b1, b2, b3⟩ := OKS_c ho
    obtain ⟨a, s, rfl, a1, a2, a3⟩ := OKS_c b3
    rw [List.length_cons, List.length_cons, List.length_cons, List.length_cons] at hl'
    rw [List.length_cons, List.length_cons] at hl
    rw [ap_op _ ho2, stp_op ho2]
    obtain ⟨M1, x, e1, e2, e3, e4⟩ := E_popC (n := n) (xs := xs) (N := N) (d + 2) hc (by rw [List.length_cons]; omega)
    (rw [e1, ra_I]; simp only [Option.bind_some])
    obtain ⟨M2, y, f1, f2, f3, f4⟩ := E_popC (n := n) (xs := xs) (N := N) (d + 2) e4 (by omega)
    (rw [f1, ra_I]; simp only [Option.bind_some])
    obtain ⟨q, g1, g2⟩ := E_join (n := n) (xs := xs) (N := N) (M := M2) (d + 2) (a := y) (b := x) ho2 (by rw [f2]; exact a1) (by rw [e2]; exact b1) (fun w => by rw [e2, f2]; exact ⟨a2 (hk w).2, b2 (hk w).1⟩)
    (rw [g1, ra_J]; simp only [Option.bind_some])
    obtain ⟨M3, i1, i2, i3⟩ := E_push (n := n) (xs := xs) (N := N) (d + 1) (x := q) f4 (by omega)
    (rw [i1, ra_V]; simp only [Option.bind_some])
    refine ⟨_, rfl, (e3.tr f3).tr i2, ?_⟩
    rw [g2, e2, f2] at i3
    exact i3
end LX
