/-! what the law finds at its start -/
def mm_Y0 (n : Nat) (xs : Nat → Int32) : mmY := (16, fun a => (mm_T0 n).getD a (.inl 99), fun _ _ => none, fun t k => cond (Nat.beq t 9) (xs k) (mm_tb t k))
/-- nothing made yet; the slots are counted from 30000 on -/
def mm_M0 : mmM := (fun _ => .inl 99, 16, 30000, fun _ _ => 0, fun _ _ => 0, fun _ _ => none)
theorem ex_fun {P : Nat → ClassId → (Nat → Nat) → Prop} (h : ∀ k, ∃ a b, P k a b) : ∃ (f : Nat → ClassId) (g : Nat → Nat → Nat), ∀ k, P k (f k) (g k) := ⟨fun k => Classical.choose (h k), fun k => Classical.choose (Classical.choose_spec (h k)), fun k => Classical.choose_spec (Classical.choose_spec (h k))⟩
section WD
variable {s : State} {args : Array Value} {A : Nat → Prop}
theorem wd_tab (hA : ∀ a : Nat, a < s.heap.size → ¬ A a) {name desc : String} {ty : FieldType} {N : Nat} {f : Nat → Int32} (hN : N < 2 ^ 31) (harr : (Cond.arrayOf (.static RX10 name desc) ty).before args s = true) (hlen : (Cond.eq (.length (.static RX10 name desc)) (.int (Int32.ofNat N))).before args s = true) (hel : ∀ j : Nat, j < N → (Cond.eq (.elem (.static RX10 name desc) (.int (Int32.ofNat j))) (.int (f j))).before args s = true) (hl : (Cond.laysStatic RX10 name desc).before args s = true) (hini : (Cond.initialized RX10).before args s = true) : ∃ t : Nat, va_T ty t N (fun j => .int (f j)) A s s.heap ∧ va_Z RX10 name desc (.ref t) A s s.heap := by
  obtain ⟨t, ht, hT⟩ := va_Tof (f := fun j => .int (f j)) (A := A) hN harr (va_eqt hlen) (fun j hj => va_eqt (hel j hj)) hA
  exact ⟨t, hT, va_Zof hl hini ht hA⟩
theorem wd_in {w : Cond} (i : Nat) (h : lw_tbl[i]? = some w) : w ∈ lw_tbl := List.mem_of_getElem? h
theorem wd_0 (hA : ∀ a : Nat, a < s.heap.size → ¬ A a) (hts : ∀ w ∈ lw_tbl, w.before args s = true) (h : (Jvm.Cond.and given_1 narrow_1).before args s = true) : ∃ t : Nat, va_T .int t 3 (fun j => .int (mm_tb 0 j)) A s s.heap ∧ va_Z RX10 "ITEMS" "[I" (.ref t) A s s.heap := by
  have hs := flat_of_before _ h
  refine wd_tab hA (by omega) (hs _ (by decide +kernel)) (hs _ (by decide +kernel)) (fun j hj => ?_) (hts _ (wd_in 489 (by decide +kernel))) (hts _ (wd_in 122 (by decide +kernel)))
  rcases (show j = 0 ∨ j = 1 ∨ j = 2 by omega) with rfl | rfl | rfl
  all_goals exact hs _ (by decide +kernel)
theorem wd_1 (hA : ∀ a : Nat, a < s.heap.size → ¬ A a) (hts : ∀ w ∈ lw_tbl, w.before args s = true) (h : (Jvm.Cond.and given_1 narrow_1).before args s = true) : ∃ t : Nat, va_T .int t 3 (fun j => .int (mm_tb 1 j)) A s s.heap ∧ va_Z RX10 "MOST_CLAUSES" "[I" (.ref t) A s s.heap := by
  have hs := flat_of_before _ h
  refine wd_tab hA (by omega) (hs _ (by decide +kernel)) (hs _ (by decide +kernel)) (fun j hj => ?_) (hts _ (wd_in 505 (by decide +kernel))) (hts _ (wd_in 122 (by decide +kernel)))
  rcases (show j = 0 ∨ j = 1 ∨ j = 2 by omega) with rfl | rfl | rfl
  all_goals exact hs _ (by decide +kernel)
theorem wd_2 (hA : ∀ a : Nat, a < s.heap.size → ¬ A a) (hts : ∀ w ∈ lw_tbl, w.before args s = true) (h : (Jvm.Cond.and given_1 narrow_1).before args s = true) : ∃ t : Nat, va_T .int t 3 (fun j => .int (mm_tb 2 j)) A s s.heap ∧ va_Z RX10 "FIRST_ITEM" "[I" (.ref t) A s s.heap := by
  have hs := flat_of_before _ h
  refine wd_tab hA (by omega) (hs _ (by decide +kernel)) (hs _ (by decide +kernel)) (fun j hj => ?_) (hts _ (wd_in 494 (by decide +kernel))) (hts _ (wd_in 122 (by decide +kernel)))
  rcases (show j = 0 ∨ j = 1 ∨ j = 2 by omega) with rfl | rfl | rfl
  all_goals exact hs _ (by decide +kernel)
theorem wd_3 (hA : ∀ a : Nat, a < s.heap.size → ¬ A a) (hts : ∀ w ∈ lw_tbl, w.before args s = true) (h : (Jvm.Cond.and given_1 narrow_1).before args s = true) : ∃ t : Nat, va_T .int t 10 (fun j => .int (mm_tb 3 j)) A s s.heap ∧ va_Z RX10 "LEAST" "[I" (.ref t) A s s.heap := by
  have hs := flat_of_before _ h
  refine wd_tab hA (by omega) (hs _ (by decide +kernel)) (hs _ (by decide +kernel)) (fun j hj => ?_) (hts _ (wd_in 565 (by decide +kernel))) (hts _ (wd_in 122 (by decide +kernel)))
  rcases (show j = 0 ∨ j = 1 ∨ j = 2 ∨ j = 3 ∨ j = 4 ∨ j = 5 ∨ j = 6 ∨ j = 7 ∨ j = 8 ∨ j = 9 by omega) with rfl | rfl | rfl | rfl | rfl | rfl | rfl | rfl | rfl | rfl
  all_goals exact hs _ (by decide +kernel)
theorem wd_4 (hA : ∀ a : Nat, a < s.heap.size → ¬ A a) (hts : ∀ w ∈ lw_tbl, w.before args s = true) (h : (Jvm.Cond.and given_1 narrow_1).before args s = true) : ∃ t : Nat, va_T .int t 10 (fun j => .int (mm_tb 4 j)) A s s.heap ∧ va_Z RX10 "MOST" "[I" (.ref t) A s s.heap := by
  have hs := flat_of_before _ h
  refine wd_tab hA (by omega) (hs _ (by decide +kernel)) (hs _ (by decide +kernel)) (fun j hj => ?_) (hts _ (wd_in 567 (by decide +kernel))) (hts _ (wd_in 122 (by decide +kernel)))
  rcases (show j = 0 ∨ j = 1 ∨ j = 2 ∨ j = 3 ∨ j = 4 ∨ j = 5 ∨ j = 6 ∨ j = 7 ∨ j = 8 ∨ j = 9 by omega) with rfl | rfl | rfl | rfl | rfl | rfl | rfl | rfl | rfl | rfl
  all_goals exact hs _ (by decide +kernel)
theorem wd_5 (hA : ∀ a : Nat, a < s.heap.size → ¬ A a) (hts : ∀ w ∈ lw_tbl, w.before args s = true) (h : (Jvm.Cond.and given_1 narrow_1).before args s = true) : ∃ t : Nat, va_T .int t 10 (fun j => .int (mm_tb 5 j)) A s s.heap ∧ va_Z RX10 "WITHOUT" "[I" (.ref t) A s s.heap := by
  have hs := flat_of_before _ h
  refine wd_tab hA (by omega) (hs _ (by decide +kernel)) (hs _ (by decide +kernel)) (fun j hj => ?_) (hts _ (wd_in 496 (by decide +kernel))) (hts _ (wd_in 122 (by decide +kernel)))
  rcases (show j = 0 ∨ j = 1 ∨ j = 2 ∨ j = 3 ∨ j = 4 ∨ j = 5 ∨ j = 6 ∨ j = 7 ∨ j = 8 ∨ j = 9 by omega) with rfl | rfl | rfl | rfl | rfl | rfl | rfl | rfl | rfl | rfl
  all_goals exact hs _ (by decide +kernel)
theorem wd_6 (hA : ∀ a : Nat, a < s.heap.size → ¬ A a) (hts : ∀ w ∈ lw_tbl, w.before args s = true) (h : (Jvm.Cond.and given_1 narrow_1).before args s = true) : ∃ t : Nat, va_T .int t 3 (fun j => .int (mm_tb 6 j)) A s s.heap ∧ va_Z RX10 "FIRST_VALUE" "[I" (.ref t) A s s.heap := by
  have hs := flat_of_before _ h
  refine wd_tab hA (by omega) (hs _ (by decide +kernel)) (hs _ (by decide +kernel)) (fun j hj => ?_) (hts _ (wd_in 507 (by decide +kernel))) (hts _ (wd_in 122 (by decide +kernel)))
  rcases (show j = 0 ∨ j = 1 ∨ j = 2 by omega) with rfl | rfl | rfl
  all_goals exact hs _ (by decide +kernel)
theorem wd_7 (hA : ∀ a : Nat, a < s.heap.size → ¬ A a) (hts : ∀ w ∈ lw_tbl, w.before args s = true) (h : (Jvm.Cond.and given_1 narrow_1).before args s = true) : ∃ t : Nat, va_T .char t 3 (fun j => .int (mm_tb 7 j)) A s s.heap ∧ va_Z RX10 "CLAUSE_SIGNS" "[C" (.ref t) A s s.heap := by
  have hs := flat_of_before _ h
  refine wd_tab hA (by omega) (hs _ (by decide +kernel)) (hs _ (by decide +kernel)) (fun j hj => ?_) (hts _ (wd_in 524 (by decide +kernel))) (hts _ (wd_in 122 (by decide +kernel)))
  rcases (show j = 0 ∨ j = 1 ∨ j = 2 by omega) with rfl | rfl | rfl
  all_goals exact hs _ (by decide +kernel)
theorem wd_8 (hA : ∀ a : Nat, a < s.heap.size → ¬ A a) (hts : ∀ w ∈ lw_tbl, w.before args s = true) (h : (Jvm.Cond.and given_1 narrow_1).before args s = true) : ∃ t : Nat, va_T .char t 10 (fun j => .int (mm_tb 8 j)) A s s.heap ∧ va_Z RX10 "SIGNS" "[C" (.ref t) A s s.heap := by
  have hs := flat_of_before _ h
  refine wd_tab hA (by omega) (hs _ (by decide +kernel)) (hs _ (by decide +kernel)) (fun j hj => ?_) (hts _ (wd_in 542 (by decide +kernel))) (hts _ (wd_in 122 (by decide +kernel)))
  rcases (show j = 0 ∨ j = 1 ∨ j = 2 ∨ j = 3 ∨ j = 4 ∨ j = 5 ∨ j = 6 ∨ j = 7 ∨ j = 8 ∨ j = 9 by omega) with rfl | rfl | rfl | rfl | rfl | rfl | rfl | rfl | rfl | rfl
  all_goals exact hs _ (by decide +kernel)
theorem wd_arr {ty : FieldType} {c comp : ClassId} {k : Class} (h1 : s.vm.classes[c]? = some k) (h2 : k.kind = .array comp ty) : ArrOfT s c ty := fun N z => ⟨(fun k h => by cases h), k, h1, comp, h2⟩
theorem wd_cls (hts : ∀ w ∈ lw_tbl, w.before args s = true) : ∃ (dC : Nat → ClassId) (dI : Nat → Nat → Nat), ∀ (k : Nat) (q : vw_C), mm_cl[k]? = some q → u_Kn s q.1 q.2.1 q.2.2 (dC k) (dI k) := by
  refine ex_fun (P := fun k a b => ∀ q : vw_C, mm_cl[k]? = some q → u_Kn s q.1 q.2.1 q.2.2 a b) (fun k => ?_)
  by_cases hk : k < 13
  · rcases (show k = 0 ∨ k = 1 ∨ k = 2 ∨ k = 3 ∨ k = 4 ∨ k = 5 ∨ k = 6 ∨ k = 7 ∨ k = 8 ∨ k = 9 ∨ k = 10 ∨ k = 11 ∨ k = 12 by omega) with rfl | rfl | rfl | rfl | rfl | rfl | rfl | rfl | rfl | rfl | rfl | rfl | rfl
    · obtain ⟨cC, iS, h⟩ := u_known (C := RX0) (T := TX0) (N := 11) (n := 11) hts (fun w hw => (klay_0 w hw).1) (hts _ (wd_in 252 (by decide +kernel)))
      exact ⟨cC, iS, fun q hq => by cases hq; exact h⟩
    · obtain ⟨cC, iS, h⟩ := u_known (C := RX1) (T := TX1) (N := 1) (n := 1) hts (fun w hw => (klay_1 w hw).1) (hts _ (wd_in 376 (by decide +kernel)))
      exact ⟨cC, iS, fun q hq => by cases hq; exact h⟩
    · obtain ⟨cC, iS, h⟩ := u_known (C := RX2) (T := TX2) (N := 2) (n := 2) hts (fun w hw => (klay_2 w hw).1) (hts _ (wd_in 166 (by decide +kernel)))
      exact ⟨cC, iS, fun q hq => by cases hq; exact h⟩
    · obtain ⟨cC, iS, h⟩ := u_known (C := RX3) (T := TX3) (N := 3) (n := 3) hts (fun w hw => (klay_3 w hw).1) (hts _ (wd_in 192 (by decide +kernel)))
      exact ⟨cC, iS, fun q hq => by cases hq; exact h⟩
    · obtain ⟨cC, iS, h⟩ := u_known (C := RX4) (T := TX4) (N := 11) (n := 11) hts (fun w hw => (klay_4 w hw).1) (hts _ (wd_in 208 (by decide +kernel)))
      exact ⟨cC, iS, fun q hq => by cases hq; exact h⟩
    · obtain ⟨cC, iS, h⟩ := u_known (C := RX5) (T := TX5) (N := 1) (n := 1) hts (fun w hw => (klay_5 w hw).1) (hts _ (wd_in 321 (by decide +kernel)))
      exact ⟨cC, iS, fun q hq => by cases hq; exact h⟩
    · obtain ⟨cC, iS, h⟩ := u_known (C := RX6) (T := TX6) (N := 3) (n := 3) hts (fun w hw => (klay_6 w hw).1) (hts _ (wd_in 303 (by decide +kernel)))
      exact ⟨cC, iS, fun q hq => by cases hq; exact h⟩
    · obtain ⟨cC, iS, h⟩ := u_known (C := RX7) (T := TX7) (N := 5) (n := 5) hts (fun w hw => (klay_7 w hw).1) (hts _ (wd_in 354 (by decide +kernel)))
      exact ⟨cC, iS, fun q hq => by cases hq; exact h⟩
    · obtain ⟨cC, iS, h⟩ := u_known (C := RX8) (T := TX8) (N := 5) (n := 5) hts (fun w hw => (klay_8 w hw).1) (hts _ (wd_in 331 (by decide +kernel)))
      exact ⟨cC, iS, fun q hq => by cases hq; exact h⟩
    · obtain ⟨cC, iS, h⟩ := u_known (C := RX9) (T := TX9) (N := 3) (n := 3) hts (fun w hw => (klay_9 w hw).1) (hts _ (wd_in 149 (by decide +kernel)))
      exact ⟨cC, iS, fun q hq => by cases hq; exact h⟩
    · obtain ⟨cC, iS, h⟩ := u_known (C := RX10) (T := TX10) (N := 2) (n := 2) hts (fun w hw => (klay_10 w hw).1) (hts _ (wd_in 172 (by decide +kernel)))
      exact ⟨cC, iS, fun q hq => by cases hq; exact h⟩
    · obtain ⟨cC, iS, h⟩ := u_known (C := RX11) (T := TX11) (N := 19) (n := 19) hts (fun w hw => (klay_11 w hw).1) (hts _ (wd_in 141 (by decide +kernel)))
      exact ⟨cC, iS, fun q hq => by cases hq; exact h⟩
    · obtain ⟨cC, iS, h⟩ := u_known (C := RX12) (T := TX12) (N := 46) (n := 46) hts (fun w hw => (klay_12 w hw).1) (hts _ (wd_in 1267 (by decide +kernel)))
      exact ⟨cC, iS, fun q hq => by cases hq; exact h⟩
  · exact ⟨0, fun _ => 0, fun q hq => absurd (List.getElem?_eq_some_iff.mp hq).1 hk⟩
theorem wd_nest (hts : ∀ w ∈ lw_tbl, w.before args s = true) : mm_cnN mm_nest s := by
  have hm : ∀ w ∈ mm_nest, w ∈ lw_tbl := by
    have e : mm_nest = [268, 270, 264, 259, 261, 266, 274, 272, 276, 258, 263, 150, 209, 250, 253, 304, 322, 332, 377, 173, 768, 568].filterMap (fun i => lw_tbl[i]?) := by decide +kernel
    rw [e]
    intro w hw
    obtain ⟨i, -, hi⟩ := List.mem_filterMap.mp hw
    exact List.mem_of_getElem? hi
  have ht : ∀ w ∈ mm_nest, w.onTables = true := by decide +kernel
  exact fun w hw => va_Nw.of (ht w hw) (hts w (hm w hw))
theorem wd_start {b L : Nat} {xs : Nat → Int32} (hL : L ≤ 3072) (hA : ∀ a : Nat, a < s.heap.size → ¬ A a) (hts : ∀ w ∈ lw_tbl, w.before args s = true) (h : (Jvm.Cond.and given_1 narrow_1).before args s = true) (hX : va_X b L xs s s.heap) (hb : b < s.heap.size) : ∃ (D : va_G) (cA : Nat → ClassId) (ρ0 : Nat → Nat), va_K D mm_cl (mm_tysA cA) s ∧ mm_cnT (mm_Y0 L xs) ρ0 A s s.heap ∧ mm_cnZ ρ0 A s s.heap ∧ mm_cnN mm_nest s ∧ va_AO RX0 s ∧ mm_c5 cA s ∧ ρ0 9 = b := by
  obtain ⟨dC, dI, hC⟩ := wd_cls hts
  obtain ⟨c0, k0, m0, f0, g0, e0⟩ := Cond.arrayClass_spec (hts (.arrayClass .int) (wd_in 164 (by decide +kernel)))
  obtain ⟨c1, k1, m1, f1, g1, e1⟩ := Cond.arrayClass_spec (hts (.arrayClass .boolean) (wd_in 352 (by decide +kernel)))
  obtain ⟨c3, k3, m3, f3, g3, e3⟩ := Cond.arrayClass_spec (hts (.arrayClass .long) (wd_in 1885 (by decide +kernel)))
  have hO : va_AO RX0 s := va_AO.of (hts (.arrayOver (.object RX0)) (wd_in 309 (by decide +kernel)))
  have hOA : va_AOA .int s := hts (.arrayOver (.array .int)) (wd_in 214 (by decide +kernel))
  obtain ⟨m4, c4, k4, p4, i4, g4, e4, f4⟩ := Cond.arrayOver_spec hO
  obtain ⟨m5, c5, k5, p5, g5, e5, f5⟩ := Cond.arrayOver_specA hOA
  have hm5 : m5 = c0 := Option.some.inj (p5.symm.trans f0)
  subst hm5
  obtain ⟨a0, T0, Z0⟩ := wd_0 hA hts h
  obtain ⟨a1, T1, Z1⟩ := wd_1 hA hts h
  obtain ⟨a2, T2, Z2⟩ := wd_2 hA hts h
  obtain ⟨a3, T3, Z3⟩ := wd_3 hA hts h
  obtain ⟨a4, T4, Z4⟩ := wd_4 hA hts h
  obtain ⟨a5, T5, Z5⟩ := wd_5 hA hts h
  obtain ⟨a6, T6, Z6⟩ := wd_6 hA hts h
  obtain ⟨a7, T7, Z7⟩ := wd_7 hA hts h
  obtain ⟨a8, T8, Z8⟩ := wd_8 hA hts h
  refine ⟨(dC, dI), fun k => if k = 0 then m5 else if k = 1 then c1 else if k = 3 then c3 else if k = 4 then c4 else c5, fun t => if t = 0 then a0 else if t = 1 then a1 else if t = 2 then a2 else if t = 3 then a3 else if t = 4 then a4 else if t = 5 then a5 else if t = 6 then a6 else if t = 7 then a7 else if t = 8 then a8 else b, ⟨hC, fun k q hq => ?_⟩, fun t ty len ht hs => ?_, fun t q hq => ?_, wd_nest hts, hO, ⟨hOA, k5, k0, g5, e5, g0, ?_⟩, rfl⟩
  · have hk : k < 6 := (List.getElem?_eq_some_iff.mp hq).1
    rcases (show k = 0 ∨ k = 1 ∨ k = 2 ∨ k = 3 ∨ k = 4 ∨ k = 5 by omega) with rfl | rfl | rfl | rfl | rfl | rfl
    · cases hq; exact ⟨wd_arr g0 e0, f0⟩
    · cases hq; exact ⟨wd_arr g1 e1, f1⟩
    · cases hq; exact ⟨wd_arr g0 e0, f0⟩
    · cases hq; exact ⟨wd_arr g3 e3, f3⟩
    · cases hq; exact ⟨wd_arr g4 e4, k4, m4, g4, e4, p4, f4⟩
    · cases hq; exact ⟨wd_arr g5 e5, f5⟩
  · rcases (show t = 0 ∨ t = 1 ∨ t = 2 ∨ t = 3 ∨ t = 4 ∨ t = 5 ∨ t = 6 ∨ t = 7 ∨ t = 8 ∨ t = 9 ∨ t = 10 ∨ t = 11 ∨ t = 12 ∨ t = 13 ∨ t = 14 ∨ t = 15 by omega) with rfl | rfl | rfl | rfl | rfl | rfl | rfl | rfl | rfl | rfl | rfl | rfl | rfl | rfl | rfl | rfl
    · cases hs; exact T0
    · cases hs; exact T1
    · cases hs; exact T2
    · cases hs; exact T3
    · cases hs; exact T4
    · cases hs; exact T5
    · cases hs; exact T6
    · cases hs; exact T7
    · cases hs; exact T8
    · cases hs
      obtain ⟨scr, h1, h2, h3, h4, h5⟩ := hX
      exact ⟨scr, h1, h2, h3, by rw [h4]; exact Nat.le_refl _, by rw [h4], h5, hA b hb⟩
    · cases hs
    · cases hs
    · cases hs
    · cases hs
    · cases hs
    · cases hs
  · have ht : t < 9 := (List.getElem?_eq_some_iff.mp hq).1
    rcases (show t = 0 ∨ t = 1 ∨ t = 2 ∨ t = 3 ∨ t = 4 ∨ t = 5 ∨ t = 6 ∨ t = 7 ∨ t = 8 by omega) with rfl | rfl | rfl | rfl | rfl | rfl | rfl | rfl | rfl
    · cases hq; exact Z0
    · cases hq; exact Z1
    · cases hq; exact Z2
    · cases hq; exact Z3
    · cases hq; exact Z4
    · cases hq; exact Z5
    · cases hq; exact Z6
    · cases hq; exact Z7
    · cases hq; exact Z8
  · exact Vm.assignable_self _ _
end WD
