section CA
variable {n : Nat} {xs : Nat → Int32} {N : Nat} {M : mmM} {i : Int32}
theorem C_fault (hT : TI n xs N M) (d : Nat) (y : Int32) : CC n xs N (d + 60) M 101 [.ref 16, .int y] 218 [.ref 60, .int y] := by
  by_cases hy : y = 1
  · subst hy; exact C_fault1 hT d
  · exact C_fault0 hT d y hy
theorem C_text (hT : TI n xs N M) (d : Nat) (y : Int32) : CC n xs N (d + 60) M 102 [.ref 16, .int y] 220 [.ref 60, .int y] := by
  by_cases hy : y = 1
  · subst hy; exact C_text1 hT d
  · exact C_text0 hT d y hy
/-- the five numbers behind a call's number lie in the script -/
def IN5 (n : Nat) (i : Int32) : Prop := mm_inb (i + (1 : Int32)) n = true ∧ mm_inb (i + (2 : Int32)) n = true ∧ mm_inb (i + (3 : Int32)) n = true ∧ mm_inb (i + (4 : Int32)) n = true ∧ mm_inb (i + (5 : Int32)) n = true
/-- a case of the law: both answer alike -/
def CAS (n : Nat) (xs : Nat → Int32) (N d t : Nat) (M : mmM) (i : Int32) : Prop := ∃ M2, (∀ j : mmG, mm_ex (mm_Y n xs) (mm_E n xs N (d + 60)) lw_cs j 1200 (mm_at t cd_law) [some (.ref 9), some (.ref 16), some (.ref 60), some (.ref 86), some (.int i), none, none] [] M = j 1593 [some (.ref 9), some (.ref 16), some (.ref 60), some (.ref 86), some (.int i), none, none] [] M2) ∧ TI n xs N M2
theorem lw_0 (hT : TI n xs N M) (d : Nat) (hi : IN5 n i) : CAS n xs N d 224 M i := by
  obtain ⟨h1, h2, h3, h4, h5⟩ := hi
  obtain ⟨v, M1, M2, e1, e2, h⟩ := C_feed hT d (xs ((i + (1 : Int32)).toNatClampNeg)) (xs ((i + (2 : Int32)).toNatClampNeg)) (xs ((i + (3 : Int32)).toNatClampNeg)) (xs ((i + (4 : Int32)).toNatClampNeg)) (xs ((i + (5 : Int32)).toNatClampNeg))
  refine ⟨M2, fun j => ?_, h⟩
  rw [uw_0]
  simp only [h1, h2, h3, h4, h5, cond_true]
  rw [e1, ra_I, Option.bind_some]
  dsimp only
  rw [e2, ra_I, Option.bind_some]
  dsimp only
  rw [if_pos rfl]
theorem lw_1 (hT : TI n xs N M) (d : Nat) (hi : IN5 n i) : CAS n xs N d 297 M i := by
  obtain ⟨h1, h2, h3, h4, h5⟩ := hi
  obtain ⟨v, M1, M2, e1, e2, h⟩ := C_end hT d (xs ((i + (1 : Int32)).toNatClampNeg))
  refine ⟨M2, fun j => ?_, h⟩
  rw [uw_1]
  simp only [h1, cond_true]
  rw [e1, ra_I, Option.bind_some]
  dsimp only
  rw [e2, ra_I, Option.bind_some]
  dsimp only
  rw [if_pos rfl]
theorem lw_2 (hT : TI n xs N M) (d : Nat) (hi : IN5 n i) : CAS n xs N d 322 M i := by
  obtain ⟨h1, h2, h3, h4, h5⟩ := hi
  obtain ⟨v, M1, M2, e1, e2, h⟩ := C_fault hT d (xs ((i + (1 : Int32)).toNatClampNeg))
  refine ⟨M2, fun j => ?_, h⟩
  rw [uw_2]
  simp only [h1, cond_true]
  rw [e1, ra_I, Option.bind_some]
  dsimp only
  rw [e2, ra_I, Option.bind_some]
  dsimp only
  rw [if_pos rfl]
theorem lw_3 (hT : TI n xs N M) (d : Nat) (hi : IN5 n i) : CAS n xs N d 347 M i := by
  obtain ⟨h1, h2, h3, h4, h5⟩ := hi
  obtain ⟨v, M1, M2, e1, e2, h⟩ := C_text hT d (xs ((i + (1 : Int32)).toNatClampNeg))
  refine ⟨M2, fun j => ?_, h⟩
  rw [uw_3]
  simp only [h1, cond_true]
  rw [e1, ra_I, Option.bind_some]
  dsimp only
  rw [e2, ra_I, Option.bind_some]
  dsimp only
  rw [if_pos rfl]
theorem lw_4 (hT : TI n xs N M) (d : Nat) (hi : IN5 n i) : CAS n xs N d 372 M i := by
  obtain ⟨h1, h2, h3, h4, h5⟩ := hi
  obtain ⟨v, M1, M2, e1, e2, h⟩ := C_rule hT d (xs ((i + (1 : Int32)).toNatClampNeg))
  refine ⟨M2, fun j => ?_, h⟩
  rw [uw_4]
  simp only [h1, cond_true]
  rw [e1, ra_I, Option.bind_some]
  dsimp only
  rw [e2, ra_I, Option.bind_some]
  dsimp only
  rw [if_pos rfl]
theorem lw_5 (hT : TI n xs N M) (d : Nat) (hi : IN5 n i) : CAS n xs N d 397 M i := by
  obtain ⟨h1, h2, h3, h4, h5⟩ := hi
  obtain ⟨v, M1, M2, e1, e2, h⟩ := C_cook hT d (xs ((i + (1 : Int32)).toNatClampNeg)) (xs ((i + (2 : Int32)).toNatClampNeg))
  refine ⟨M2, fun j => ?_, h⟩
  rw [uw_5]
  simp only [h1, h2, cond_true]
  rw [e1, ra_I, Option.bind_some]
  dsimp only
  rw [e2, ra_I, Option.bind_some]
  dsimp only
  rw [if_pos rfl]
theorem lw_7 (hT : TI n xs N M) (d : Nat) (hi : IN5 n i) : CAS n xs N d 502 M i := by
  obtain ⟨h1, h2, h3, h4, h5⟩ := hi
  obtain ⟨v, M1, M2, e1, e2, h⟩ := B_law hT d (xs ((i + (1 : Int32)).toNatClampNeg))
  refine ⟨M2, fun j => ?_, h⟩
  rw [uw_7]
  simp only [h1, cond_true]
  rw [e1, ra_I, Option.bind_some]
  dsimp only
  rw [e2, ra_I, Option.bind_some]
  dsimp only
  rw [if_pos rfl]
theorem lw_8 (hT : TI n xs N M) (d : Nat) (hi : IN5 n i) : CAS n xs N d 527 M i := by
  obtain ⟨h1, h2, h3, h4, h5⟩ := hi
  obtain ⟨v, M1, M2, e1, e2, h⟩ := C_strokes hT d (xs ((i + (1 : Int32)).toNatClampNeg)) (xs ((i + (2 : Int32)).toNatClampNeg))
  refine ⟨M2, fun j => ?_, h⟩
  rw [uw_8]
  simp only [h1, h2, cond_true]
  rw [e1, ra_I, Option.bind_some]
  dsimp only
  rw [e2, ra_I, Option.bind_some]
  dsimp only
  rw [if_pos rfl]
theorem lw_9 (hT : TI n xs N M) (d : Nat) (hi : IN5 n i) : CAS n xs N d 564 M i := by
  obtain ⟨h1, h2, h3, h4, h5⟩ := hi
  obtain ⟨v, M1, M2, e1, e2, h⟩ := C_fold hT d (xs ((i + (1 : Int32)).toNatClampNeg))
  refine ⟨M2, fun j => ?_, h⟩
  rw [uw_9]
  simp only [h1, cond_true]
  rw [e1, ra_I, Option.bind_some]
  dsimp only
  rw [e2, ra_I, Option.bind_some]
  dsimp only
  rw [if_pos rfl]
theorem lw_10 (hT : TI n xs N M) (d : Nat) (hi : IN5 n i) : CAS n xs N d 589 M i := by
  obtain ⟨h1, h2, h3, h4, h5⟩ := hi
  obtain ⟨v, M1, M2, e1, e2, h⟩ := C_sugar hT d 
  refine ⟨M2, fun j => ?_, h⟩
  rw [uw_10]
  rw [e1, ra_I, Option.bind_some]
  dsimp only
  rw [e2, ra_I, Option.bind_some]
  dsimp only
  rw [if_pos rfl]
theorem lw_11 (hT : TI n xs N M) (d : Nat) (hi : IN5 n i) : CAS n xs N d 602 M i := by
  obtain ⟨h1, h2, h3, h4, h5⟩ := hi
  obtain ⟨v, M1, M2, e1, e2, h⟩ := C_door hT d 
  refine ⟨M2, fun j => ?_, h⟩
  rw [uw_11]
  rw [e1, ra_I, Option.bind_some]
  dsimp only
  rw [e2, ra_I, Option.bind_some]
  dsimp only
  rw [if_pos rfl]
theorem lw_12 (hT : TI n xs N M) (d : Nat) (hi : IN5 n i) : CAS n xs N d 615 M i := by
  obtain ⟨h1, h2, h3, h4, h5⟩ := hi
  obtain ⟨v, M1, M2, e1, e2, h⟩ := C_hours hT d (xs ((i + (1 : Int32)).toNatClampNeg))
  refine ⟨M2, fun j => ?_, h⟩
  rw [uw_12]
  simp only [h1, cond_true]
  rw [e1, ra_I, Option.bind_some]
  dsimp only
  rw [e2, ra_I, Option.bind_some]
  dsimp only
  rw [if_pos rfl]
theorem lw_13 (hT : TI n xs N M) (d : Nat) (hi : IN5 n i) : CAS n xs N d 640 M i := by
  obtain ⟨h1, h2, h3, h4, h5⟩ := hi
  obtain ⟨v, M1, M2, e1, e2, h⟩ := C_practise hT d (xs ((i + (1 : Int32)).toNatClampNeg))
  refine ⟨M2, fun j => ?_, h⟩
  rw [uw_13]
  simp only [h1, cond_true]
  rw [e1, ra_I, Option.bind_some]
  dsimp only
  rw [e2, ra_I, Option.bind_some]
  dsimp only
  rw [if_pos rfl]
theorem lw_14 (hT : TI n xs N M) (d : Nat) (hi : IN5 n i) : CAS n xs N d 665 M i := by
  obtain ⟨h1, h2, h3, h4, h5⟩ := hi
  obtain ⟨v, M1, M2, e1, e2, h⟩ := C_yolk hT d 
  refine ⟨M2, fun j => ?_, h⟩
  rw [uw_14]
  rw [e1, ra_I, Option.bind_some]
  dsimp only
  rw [e2, ra_I, Option.bind_some]
  dsimp only
  rw [if_pos rfl]
theorem lw_15 (hT : TI n xs N M) (d : Nat) (hi : IN5 n i) : CAS n xs N d 678 M i := by
  obtain ⟨h1, h2, h3, h4, h5⟩ := hi
  obtain ⟨v, M1, M2, e1, e2, h⟩ := C_give hT d (xs ((i + (1 : Int32)).toNatClampNeg))
  refine ⟨M2, fun j => ?_, h⟩
  rw [uw_15]
  simp only [h1, cond_true]
  rw [e1, ra_I, Option.bind_some]
  dsimp only
  rw [e2, ra_I, Option.bind_some]
  dsimp only
  rw [if_pos rfl]
theorem lw_16 (hT : TI n xs N M) (d : Nat) (hi : IN5 n i) : CAS n xs N d 703 M i := by
  obtain ⟨h1, h2, h3, h4, h5⟩ := hi
  obtain ⟨v, M1, M2, e1, e2, h⟩ := C_days hT d (xs ((i + (1 : Int32)).toNatClampNeg))
  refine ⟨M2, fun j => ?_, h⟩
  rw [uw_16]
  simp only [h1, cond_true]
  rw [e1, ra_I, Option.bind_some]
  dsimp only
  rw [e2, ra_I, Option.bind_some]
  dsimp only
  rw [if_pos rfl]
theorem lw_17 (hT : TI n xs N M) (d : Nat) (hi : IN5 n i) : CAS n xs N d 728 M i := by
  obtain ⟨h1, h2, h3, h4, h5⟩ := hi
  obtain ⟨v, M1, M2, e1, e2, h⟩ := C_draught hT d (xs ((i + (1 : Int32)).toNatClampNeg))
  refine ⟨M2, fun j => ?_, h⟩
  rw [uw_17]
  simp only [h1, cond_true]
  rw [e1, ra_I, Option.bind_some]
  dsimp only
  rw [e2, ra_I, Option.bind_some]
  dsimp only
  rw [if_pos rfl]
theorem lw_18 (hT : TI n xs N M) (d : Nat) (hi : IN5 n i) : CAS n xs N d 753 M i := by
  obtain ⟨h1, h2, h3, h4, h5⟩ := hi
  obtain ⟨v, M1, M2, e1, e2, h⟩ := C_years hT d (xs ((i + (1 : Int32)).toNatClampNeg)) ((((xs ((i + (2 : Int32)).toNatClampNeg)).toInt64) <<< ((32 : Int32).toInt64 &&& 63)) ||| (((xs ((i + (3 : Int32)).toNatClampNeg)).toInt64) &&& (4294967295 : Int64)))
  refine ⟨M2, fun j => ?_, h⟩
  rw [uw_18]
  simp only [h1, h2, h3, cond_true]
  rw [e1, ra_I, Option.bind_some]
  dsimp only
  rw [e2, ra_I, Option.bind_some]
  dsimp only
  rw [if_pos rfl]
theorem lw_19 (hT : TI n xs N M) (d : Nat) (hi : IN5 n i) : CAS n xs N d 822 M i := by
  obtain ⟨h1, h2, h3, h4, h5⟩ := hi
  obtain ⟨v, M1, M2, e1, e2, h⟩ := C_status hT d (xs ((i + (1 : Int32)).toNatClampNeg))
  refine ⟨M2, fun j => ?_, h⟩
  rw [uw_19]
  simp only [h1, cond_true]
  rw [e1, ra_I, Option.bind_some]
  dsimp only
  rw [e2, ra_I, Option.bind_some]
  dsimp only
  rw [if_pos rfl]
theorem lw_20 (hT : TI n xs N M) (d : Nat) (hi : IN5 n i) : CAS n xs N d 847 M i := by
  obtain ⟨h1, h2, h3, h4, h5⟩ := hi
  obtain ⟨v, M1, M2, e1, e2, h⟩ := C_undo hT d 
  refine ⟨M2, fun j => ?_, h⟩
  rw [uw_20]
  rw [e1, ra_I, Option.bind_some]
  dsimp only
  rw [e2, ra_I, Option.bind_some]
  dsimp only
  rw [if_pos rfl]
theorem lw_21 (hT : TI n xs N M) (d : Nat) (hi : IN5 n i) : CAS n xs N d 860 M i := by
  obtain ⟨h1, h2, h3, h4, h5⟩ := hi
  obtain ⟨v, M1, M2, e1, e2, h⟩ := C_log hT d (xs ((i + (1 : Int32)).toNatClampNeg)) (xs ((i + (2 : Int32)).toNatClampNeg))
  refine ⟨M2, fun j => ?_, h⟩
  rw [uw_21]
  simp only [h1, h2, cond_true]
  rw [e1, ra_I, Option.bind_some]
  dsimp only
  rw [e2, ra_I, Option.bind_some]
  dsimp only
  rw [if_pos rfl]
theorem lw_22 (hT : TI n xs N M) (d : Nat) (hi : IN5 n i) : CAS n xs N d 897 M i := by
  obtain ⟨h1, h2, h3, h4, h5⟩ := hi
  obtain ⟨v, M1, M2, e1, e2, h⟩ := C_behind hT d (xs ((i + (1 : Int32)).toNatClampNeg)) (xs ((i + (2 : Int32)).toNatClampNeg))
  refine ⟨M2, fun j => ?_, h⟩
  rw [uw_22]
  simp only [h1, h2, cond_true]
  rw [e1, ra_I, Option.bind_some]
  dsimp only
  rw [e2, ra_I, Option.bind_some]
  dsimp only
  rw [if_pos rfl]
theorem lw_23 (hT : TI n xs N M) (d : Nat) (hi : IN5 n i) : CAS n xs N d 934 M i := by
  obtain ⟨h1, h2, h3, h4, h5⟩ := hi
  obtain ⟨v, M1, M2, e1, e2, h⟩ := C_soonest hT d (xs ((i + (1 : Int32)).toNatClampNeg)) (xs ((i + (2 : Int32)).toNatClampNeg))
  refine ⟨M2, fun j => ?_, h⟩
  rw [uw_23]
  simp only [h1, h2, cond_true]
  rw [e1, ra_I, Option.bind_some]
  dsimp only
  rw [e2, ra_I, Option.bind_some]
  dsimp only
  rw [if_pos rfl]
theorem lw_24 (hT : TI n xs N M) (d : Nat) (hi : IN5 n i) : CAS n xs N d 971 M i := by
  obtain ⟨h1, h2, h3, h4, h5⟩ := hi
  obtain ⟨v, M1, M2, e1, e2, h⟩ := C_stop hT d (xs ((i + (1 : Int32)).toNatClampNeg)) (xs ((i + (2 : Int32)).toNatClampNeg))
  refine ⟨M2, fun j => ?_, h⟩
  rw [uw_24]
  simp only [h1, h2, cond_true]
  rw [e1, ra_I, Option.bind_some]
  dsimp only
  rw [e2, ra_I, Option.bind_some]
  dsimp only
  rw [if_pos rfl]
theorem lw_25 (hT : TI n xs N M) (d : Nat) (hi : IN5 n i) : CAS n xs N d 1008 M i := by
  obtain ⟨h1, h2, h3, h4, h5⟩ := hi
  obtain ⟨v, M1, M2, e1, e2, h⟩ := C_best hT d (xs ((i + (1 : Int32)).toNatClampNeg))
  refine ⟨M2, fun j => ?_, h⟩
  rw [uw_25]
  simp only [h1, cond_true]
  rw [e1, ra_I, Option.bind_some]
  dsimp only
  rw [e2, ra_I, Option.bind_some]
  dsimp only
  rw [if_pos rfl]
theorem lw_26 (hT : TI n xs N M) (d : Nat) (hi : IN5 n i) : CAS n xs N d 1033 M i := by
  obtain ⟨h1, h2, h3, h4, h5⟩ := hi
  obtain ⟨v, M1, M2, e1, e2, h⟩ := C_byTurns hT d (xs ((i + (1 : Int32)).toNatClampNeg)) (xs ((i + (2 : Int32)).toNatClampNeg)) (xs ((i + (3 : Int32)).toNatClampNeg))
  refine ⟨M2, fun j => ?_, h⟩
  rw [uw_26]
  simp only [h1, h2, h3, cond_true]
  rw [e1, ra_I, Option.bind_some]
  dsimp only
  rw [e2, ra_I, Option.bind_some]
  dsimp only
  rw [if_pos rfl]
theorem lw_27 (hT : TI n xs N M) (d : Nat) (hi : IN5 n i) : CAS n xs N d 1082 M i := by
  obtain ⟨h1, h2, h3, h4, h5⟩ := hi
  obtain ⟨v, M1, M2, e1, e2, h⟩ := C_row hT d (xs ((i + (1 : Int32)).toNatClampNeg))
  refine ⟨M2, fun j => ?_, h⟩
  rw [uw_27]
  simp only [h1, cond_true]
  rw [e1, ra_I, Option.bind_some]
  dsimp only
  rw [e2, ra_I, Option.bind_some]
  dsimp only
  rw [if_pos rfl]
theorem lw_28 (hT : TI n xs N M) (d : Nat) (hi : IN5 n i) : CAS n xs N d 1107 M i := by
  obtain ⟨h1, h2, h3, h4, h5⟩ := hi
  obtain ⟨v, M1, M2, e1, e2, h⟩ := C_lasts hT d 
  refine ⟨M2, fun j => ?_, h⟩
  rw [uw_28]
  rw [e1, ra_I, Option.bind_some]
  dsimp only
  rw [e2, ra_I, Option.bind_some]
  dsimp only
  rw [if_pos rfl]
theorem lw_29 (hT : TI n xs N M) (d : Nat) (hi : IN5 n i) : CAS n xs N d 1120 M i := by
  obtain ⟨h1, h2, h3, h4, h5⟩ := hi
  obtain ⟨v, M1, M2, e1, e2, h⟩ := C_holds hT d (xs ((i + (1 : Int32)).toNatClampNeg))
  refine ⟨M2, fun j => ?_, h⟩
  rw [uw_29]
  simp only [h1, cond_true]
  rw [e1, ra_I, Option.bind_some]
  dsimp only
  rw [e2, ra_I, Option.bind_some]
  dsimp only
  rw [if_pos rfl]
theorem lw_30 (hT : TI n xs N M) (d : Nat) (hi : IN5 n i) : CAS n xs N d 1145 M i := by
  obtain ⟨h1, h2, h3, h4, h5⟩ := hi
  by_cases z : (xs ((i + (4 : Int32)).toNatClampNeg)) = 0
  · obtain ⟨v, M1, M2, e1, e2, h⟩ := C_seen hT d (xs ((i + (1 : Int32)).toNatClampNeg)) (xs ((i + (2 : Int32)).toNatClampNeg)) (xs ((i + (3 : Int32)).toNatClampNeg)) (0 : Int32)
    refine ⟨M2, fun j => ?_, h⟩
    rw [uw_30]
    simp only [h1, h2, h3, h4, if_pos z, cond_true]
    rw [e1, ra_I, Option.bind_some]
    dsimp only
    rw [e2, ra_I, Option.bind_some]
    dsimp only
    rw [if_pos rfl]
  · obtain ⟨v, M1, M2, e1, e2, h⟩ := C_seen hT d (xs ((i + (1 : Int32)).toNatClampNeg)) (xs ((i + (2 : Int32)).toNatClampNeg)) (xs ((i + (3 : Int32)).toNatClampNeg)) (1 : Int32)
    refine ⟨M2, fun j => ?_, h⟩
    rw [uw_30]
    simp only [h1, h2, h3, h4, if_neg z, cond_true]
    rw [e1, ra_I, Option.bind_some]
    dsimp only
    rw [e2, ra_I, Option.bind_some]
    dsimp only
    rw [if_pos rfl]
theorem lw_31 (hT : TI n xs N M) (d : Nat) (hi : IN5 n i) : CAS n xs N d 1222 M i := by
  obtain ⟨h1, h2, h3, h4, h5⟩ := hi
  obtain ⟨v, M1, M2, e1, e2, h⟩ := C_fits hT d (xs ((i + (1 : Int32)).toNatClampNeg))
  refine ⟨M2, fun j => ?_, h⟩
  rw [uw_31]
  simp only [h1, cond_true]
  rw [e1, ra_I, Option.bind_some]
  dsimp only
  rw [e2, ra_I, Option.bind_some]
  dsimp only
  rw [if_pos rfl]
theorem lw_32 (hT : TI n xs N M) (d : Nat) (hi : IN5 n i) : CAS n xs N d 1247 M i := by
  obtain ⟨h1, h2, h3, h4, h5⟩ := hi
  obtain ⟨v, M1, M2, e1, e2, h⟩ := C_probe hT d (xs ((i + (1 : Int32)).toNatClampNeg)) (xs ((i + (2 : Int32)).toNatClampNeg))
  refine ⟨M2, fun j => ?_, h⟩
  rw [uw_32]
  simp only [h1, h2, cond_true]
  rw [e1, ra_I, Option.bind_some]
  dsimp only
  rw [e2, ra_I, Option.bind_some]
  dsimp only
  rw [if_pos rfl]
theorem lw_33 (hT : TI n xs N M) (d : Nat) (hi : IN5 n i) : CAS n xs N d 1284 M i := by
  obtain ⟨h1, h2, h3, h4, h5⟩ := hi
  obtain ⟨v, M1, M2, e1, e2, h⟩ := C_game hT d (xs ((i + (1 : Int32)).toNatClampNeg)) (xs ((i + (2 : Int32)).toNatClampNeg)) (xs ((i + (3 : Int32)).toNatClampNeg)) (xs ((i + (4 : Int32)).toNatClampNeg)) (xs ((i + (5 : Int32)).toNatClampNeg))
  refine ⟨M2, fun j => ?_, h⟩
  rw [uw_33]
  simp only [h1, h2, h3, h4, h5, cond_true]
  rw [e1, ra_I, Option.bind_some]
  dsimp only
  rw [e2, ra_I, Option.bind_some]
  dsimp only
  rw [if_pos rfl]
theorem lw_34 (hT : TI n xs N M) (d : Nat) (hi : IN5 n i) : CAS n xs N d 1357 M i := by
  obtain ⟨h1, h2, h3, h4, h5⟩ := hi
  obtain ⟨v, M1, M2, e1, e2, h⟩ := C_rests hT d (xs ((i + (1 : Int32)).toNatClampNeg)) (xs ((i + (2 : Int32)).toNatClampNeg)) (xs ((i + (3 : Int32)).toNatClampNeg))
  refine ⟨M2, fun j => ?_, h⟩
  rw [uw_34]
  simp only [h1, h2, h3, cond_true]
  rw [e1, ra_I, Option.bind_some]
  dsimp only
  rw [e2, ra_I, Option.bind_some]
  dsimp only
  rw [if_pos rfl]
theorem lw_35 (hT : TI n xs N M) (d : Nat) (hi : IN5 n i) : CAS n xs N d 1406 M i := by
  obtain ⟨h1, h2, h3, h4, h5⟩ := hi
  obtain ⟨v, M1, M2, e1, e2, h⟩ := C_odds hT d (xs ((i + (1 : Int32)).toNatClampNeg)) (xs ((i + (2 : Int32)).toNatClampNeg)) (xs ((i + (3 : Int32)).toNatClampNeg))
  refine ⟨M2, fun j => ?_, h⟩
  rw [uw_35]
  simp only [h1, h2, h3, cond_true]
  rw [e1, ra_I, Option.bind_some]
  dsimp only
  rw [e2, ra_I, Option.bind_some]
  dsimp only
  rw [if_pos rfl]
theorem lw_36 (hT : TI n xs N M) (d : Nat) (hi : IN5 n i) : CAS n xs N d 1455 M i := by
  obtain ⟨h1, h2, h3, h4, h5⟩ := hi
  obtain ⟨v, M1, M2, e1, e2, h⟩ := C_shares hT d (xs ((i + (1 : Int32)).toNatClampNeg)) (xs ((i + (2 : Int32)).toNatClampNeg))
  refine ⟨M2, fun j => ?_, h⟩
  rw [uw_36]
  simp only [h1, h2, cond_true]
  rw [e1, ra_I, Option.bind_some]
  dsimp only
  rw [e2, ra_I, Option.bind_some]
  dsimp only
  rw [if_pos rfl]
theorem lw_37 (hT : TI n xs N M) (d : Nat) (hi : IN5 n i) : CAS n xs N d 1492 M i := by
  obtain ⟨h1, h2, h3, h4, h5⟩ := hi
  obtain ⟨v, M1, M2, e1, e2, h⟩ := C_most hT d (xs ((i + (1 : Int32)).toNatClampNeg))
  refine ⟨M2, fun j => ?_, h⟩
  rw [uw_37]
  simp only [h1, cond_true]
  rw [e1, ra_I, Option.bind_some]
  dsimp only
  rw [e2, ra_I, Option.bind_some]
  dsimp only
  rw [if_pos rfl]
theorem lw_38 (hT : TI n xs N M) (d : Nat) (hi : IN5 n i) : CAS n xs N d 1517 M i := by
  obtain ⟨h1, h2, h3, h4, h5⟩ := hi
  obtain ⟨v, M1, M2, e1, e2, h⟩ := C_ahead hT d (xs ((i + (1 : Int32)).toNatClampNeg))
  refine ⟨M2, fun j => ?_, h⟩
  rw [uw_38]
  simp only [h1, cond_true]
  rw [e1, ra_I, Option.bind_some]
  dsimp only
  rw [e2, ra_I, Option.bind_some]
  dsimp only
  rw [if_pos rfl]
theorem lw_39 (hT : TI n xs N M) (d : Nat) (hi : IN5 n i) : CAS n xs N d 1542 M i := by
  obtain ⟨h1, h2, h3, h4, h5⟩ := hi
  obtain ⟨v, M1, M2, e1, e2, h⟩ := C_image hT d 
  refine ⟨M2, fun j => ?_, h⟩
  rw [uw_39]
  rw [e1, ra_I, Option.bind_some]
  dsimp only
  rw [e2, ra_I, Option.bind_some]
  dsimp only
  rw [if_pos rfl]
theorem lw_40 (hT : TI n xs N M) (d : Nat) (hi : IN5 n i) : CAS n xs N d 1555 M i := by
  obtain ⟨h1, h2, h3, h4, h5⟩ := hi
  obtain ⟨v, M1, M2, e1, e2, h⟩ := C_back hT d 
  refine ⟨M2, fun j => ?_, h⟩
  rw [uw_40]
  rw [e1, ra_I, Option.bind_some]
  dsimp only
  rw [e2, ra_I, Option.bind_some]
  dsimp only
  rw [if_pos rfl]
theorem lw_41 (hT : TI n xs N M) (d : Nat) (hi : IN5 n i) : CAS n xs N d 1568 M i := by
  obtain ⟨h1, h2, h3, h4, h5⟩ := hi
  obtain ⟨v, M1, M2, e1, e2, h⟩ := C_count hT d (xs ((i + (1 : Int32)).toNatClampNeg))
  refine ⟨M2, fun j => ?_, h⟩
  rw [uw_41]
  simp only [h1, cond_true]
  rw [e1, ra_I, Option.bind_some]
  dsimp only
  rw [e2, ra_I, Option.bind_some]
  dsimp only
  rw [if_pos rfl]
end CA
