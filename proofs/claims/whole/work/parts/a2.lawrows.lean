set_option maxRecDepth 40000 in
set_option maxHeartbeats 4000000 in
theorem uw_head (n : Nat) (xs : Nat → Int32) (N d : Nat) (j : mmG) (M : mmM) (i : Int32) : mm_ex (mm_Y n xs) (mm_E n xs N d) lw_cs j 1200 (mm_at 23 cd_law) [some (.ref 9), some (.ref 16), some (.ref 60), some (.ref 86), some (.int i), none, none] [] M =
  (if ((Int32.ofNat n) - (6 : Int32)) < i then
  (j 1599 [some (.ref 9), some (.ref 16), some (.ref 60), some (.ref 86), some (.int i), none, none] [] M)
  else
  (cond (mm_inb i n)
    (mm_sw ((xs i.toNatClampNeg) &&& (63 : Int32)) 1593 (fun t => j t [some (.ref 9), some (.ref 16), some (.ref 60), some (.ref 86), some (.int i), none, none] [] M) lw_sw) none)) := by exact rfl
set_option maxRecDepth 40000 in
set_option maxHeartbeats 4000000 in
theorem uw_inc (n : Nat) (xs : Nat → Int32) (N d : Nat) (j : mmG) (M : mmM) (i : Int32) : mm_ex (mm_Y n xs) (mm_E n xs N d) lw_cs j 1200 (mm_at 1593 cd_law) [some (.ref 9), some (.ref 16), some (.ref 60), some (.ref 86), some (.int i), none, none] [] M =
  (j 23 [some (.ref 9), some (.ref 16), some (.ref 60), some (.ref 86), some (.int (i + (6 : Int32))), none, none] [] M) := by exact rfl
set_option maxRecDepth 40000 in
set_option maxHeartbeats 4000000 in
theorem uw_0 (n : Nat) (xs : Nat → Int32) (N d : Nat) (j : mmG) (M : mmM) (i : Int32) : mm_ex (mm_Y n xs) (mm_E n xs N d) lw_cs j 1200 (mm_at 224 cd_law) [some (.ref 9), some (.ref 16), some (.ref 60), some (.ref 86), some (.int i), none, none] [] M =
  (cond (mm_inb (i + (1 : Int32)) n)
  (cond (mm_inb (i + (2 : Int32)) n)
    (cond (mm_inb (i + (3 : Int32)) n)
      (cond (mm_inb (i + (4 : Int32)) n)
        (cond (mm_inb (i + (5 : Int32)) n)
          ((mm_aI (mm_E n xs N d 99 [.ref 16, .int (xs ((i + (1 : Int32)).toNatClampNeg)), .int (xs ((i + (2 : Int32)).toNatClampNeg)), .int (xs ((i + (3 : Int32)).toNatClampNeg)), .int (xs ((i + (4 : Int32)).toNatClampNeg)), .int (xs ((i + (5 : Int32)).toNatClampNeg))] M)).bind fun p1 =>
            (cond (mm_inb (i + (1 : Int32)) n)
            (cond (mm_inb (i + (2 : Int32)) n)
              (cond (mm_inb (i + (3 : Int32)) n)
                (cond (mm_inb (i + (4 : Int32)) n)
                  (cond (mm_inb (i + (5 : Int32)) n)
                    ((mm_aI (mm_E n xs N d 184 [.ref 60, .int (xs ((i + (1 : Int32)).toNatClampNeg)), .int (xs ((i + (2 : Int32)).toNatClampNeg)), .int (xs ((i + (3 : Int32)).toNatClampNeg)), .int (xs ((i + (4 : Int32)).toNatClampNeg)), .int (xs ((i + (5 : Int32)).toNatClampNeg))] p1.2)).bind fun p2 =>
                      (if p1.1 = p2.1 then
                      (j 1593 [some (.ref 9), some (.ref 16), some (.ref 60), some (.ref 86), some (.int i), none, none] [] p2.2)
                      else
                      none)) none) none) none) none) none)) none) none) none) none) none) := by exact rfl
set_option maxRecDepth 40000 in
set_option maxHeartbeats 4000000 in
theorem uw_1 (n : Nat) (xs : Nat → Int32) (N d : Nat) (j : mmG) (M : mmM) (i : Int32) : mm_ex (mm_Y n xs) (mm_E n xs N d) lw_cs j 1200 (mm_at 297 cd_law) [some (.ref 9), some (.ref 16), some (.ref 60), some (.ref 86), some (.int i), none, none] [] M =
  (cond (mm_inb (i + (1 : Int32)) n)
  ((mm_aI (mm_E n xs N d 100 [.ref 16, .int (xs ((i + (1 : Int32)).toNatClampNeg))] M)).bind fun p1 =>
    (cond (mm_inb (i + (1 : Int32)) n)
    ((mm_aI (mm_E n xs N d 185 [.ref 60, .int (xs ((i + (1 : Int32)).toNatClampNeg))] p1.2)).bind fun p2 =>
      (if p1.1 = p2.1 then
      (j 1593 [some (.ref 9), some (.ref 16), some (.ref 60), some (.ref 86), some (.int i), none, none] [] p2.2)
      else
      none)) none)) none) := by exact rfl
set_option maxRecDepth 40000 in
set_option maxHeartbeats 4000000 in
theorem uw_2 (n : Nat) (xs : Nat → Int32) (N d : Nat) (j : mmG) (M : mmM) (i : Int32) : mm_ex (mm_Y n xs) (mm_E n xs N d) lw_cs j 1200 (mm_at 322 cd_law) [some (.ref 9), some (.ref 16), some (.ref 60), some (.ref 86), some (.int i), none, none] [] M =
  (cond (mm_inb (i + (1 : Int32)) n)
  ((mm_aI (mm_E n xs N d 101 [.ref 16, .int (xs ((i + (1 : Int32)).toNatClampNeg))] M)).bind fun p1 =>
    (cond (mm_inb (i + (1 : Int32)) n)
    ((mm_aI (mm_E n xs N d 218 [.ref 60, .int (xs ((i + (1 : Int32)).toNatClampNeg))] p1.2)).bind fun p2 =>
      (if p1.1 = p2.1 then
      (j 1593 [some (.ref 9), some (.ref 16), some (.ref 60), some (.ref 86), some (.int i), none, none] [] p2.2)
      else
      none)) none)) none) := by exact rfl
set_option maxRecDepth 40000 in
set_option maxHeartbeats 4000000 in
theorem uw_3 (n : Nat) (xs : Nat → Int32) (N d : Nat) (j : mmG) (M : mmM) (i : Int32) : mm_ex (mm_Y n xs) (mm_E n xs N d) lw_cs j 1200 (mm_at 347 cd_law) [some (.ref 9), some (.ref 16), some (.ref 60), some (.ref 86), some (.int i), none, none] [] M =
  (cond (mm_inb (i + (1 : Int32)) n)
  ((mm_aI (mm_E n xs N d 102 [.ref 16, .int (xs ((i + (1 : Int32)).toNatClampNeg))] M)).bind fun p1 =>
    (cond (mm_inb (i + (1 : Int32)) n)
    ((mm_aI (mm_E n xs N d 220 [.ref 60, .int (xs ((i + (1 : Int32)).toNatClampNeg))] p1.2)).bind fun p2 =>
      (if p1.1 = p2.1 then
      (j 1593 [some (.ref 9), some (.ref 16), some (.ref 60), some (.ref 86), some (.int i), none, none] [] p2.2)
      else
      none)) none)) none) := by exact rfl
set_option maxRecDepth 40000 in
set_option maxHeartbeats 4000000 in
theorem uw_4 (n : Nat) (xs : Nat → Int32) (N d : Nat) (j : mmG) (M : mmM) (i : Int32) : mm_ex (mm_Y n xs) (mm_E n xs N d) lw_cs j 1200 (mm_at 372 cd_law) [some (.ref 9), some (.ref 16), some (.ref 60), some (.ref 86), some (.int i), none, none] [] M =
  (cond (mm_inb (i + (1 : Int32)) n)
  ((mm_aI (mm_E n xs N d 105 [.ref 16, .int (xs ((i + (1 : Int32)).toNatClampNeg))] M)).bind fun p1 =>
    (cond (mm_inb (i + (1 : Int32)) n)
    ((mm_aI (mm_E n xs N d 237 [.ref 60, .int (xs ((i + (1 : Int32)).toNatClampNeg))] p1.2)).bind fun p2 =>
      (if p1.1 = p2.1 then
      (j 1593 [some (.ref 9), some (.ref 16), some (.ref 60), some (.ref 86), some (.int i), none, none] [] p2.2)
      else
      none)) none)) none) := by exact rfl
set_option maxRecDepth 40000 in
set_option maxHeartbeats 4000000 in
theorem uw_5 (n : Nat) (xs : Nat → Int32) (N d : Nat) (j : mmG) (M : mmM) (i : Int32) : mm_ex (mm_Y n xs) (mm_E n xs N d) lw_cs j 1200 (mm_at 397 cd_law) [some (.ref 9), some (.ref 16), some (.ref 60), some (.ref 86), some (.int i), none, none] [] M =
  (cond (mm_inb (i + (1 : Int32)) n)
  (cond (mm_inb (i + (2 : Int32)) n)
    ((mm_aI (mm_E n xs N d 106 [.ref 16, .int (xs ((i + (1 : Int32)).toNatClampNeg)), .int (xs ((i + (2 : Int32)).toNatClampNeg))] M)).bind fun p1 =>
      (cond (mm_inb (i + (1 : Int32)) n)
      (cond (mm_inb (i + (2 : Int32)) n)
        ((mm_aI (mm_E n xs N d 238 [.ref 60, .int (xs ((i + (1 : Int32)).toNatClampNeg)), .int (xs ((i + (2 : Int32)).toNatClampNeg))] p1.2)).bind fun p2 =>
          (if p1.1 = p2.1 then
          (j 1593 [some (.ref 9), some (.ref 16), some (.ref 60), some (.ref 86), some (.int i), none, none] [] p2.2)
          else
          none)) none) none)) none) none) := by exact rfl
set_option maxRecDepth 40000 in
set_option maxHeartbeats 4000000 in
theorem uw_6 (n : Nat) (xs : Nat → Int32) (N d : Nat) (j : mmG) (M : mmM) (i : Int32) : mm_ex (mm_Y n xs) (mm_E n xs N d) lw_cs j 1200 (mm_at 434 cd_law) [some (.ref 9), some (.ref 16), some (.ref 60), some (.ref 86), some (.int i), none, none] [] M =
  (cond (mm_inb (i + (1 : Int32)) n)
  (cond (mm_inb (i + (2 : Int32)) n)
    (j 448 [some (.ref 9), some (.ref 16), some (.ref 60), some (.ref 86), some (.int i), none, none] [.ref 86, .int (xs ((i + (2 : Int32)).toNatClampNeg)), .int (xs ((i + (1 : Int32)).toNatClampNeg)), .ref 16] M) none) none) := by exact rfl
set_option maxRecDepth 40000 in
set_option maxHeartbeats 4000000 in
theorem uw_7 (n : Nat) (xs : Nat → Int32) (N d : Nat) (j : mmG) (M : mmM) (i : Int32) : mm_ex (mm_Y n xs) (mm_E n xs N d) lw_cs j 1200 (mm_at 502 cd_law) [some (.ref 9), some (.ref 16), some (.ref 60), some (.ref 86), some (.int i), none, none] [] M =
  (cond (mm_inb (i + (1 : Int32)) n)
  ((mm_aI (mm_E n xs N d 104 [.ref 16, .int (xs ((i + (1 : Int32)).toNatClampNeg))] M)).bind fun p1 =>
    (cond (mm_inb (i + (1 : Int32)) n)
    ((mm_aI (mm_E n xs N d 240 [.ref 60, .int (xs ((i + (1 : Int32)).toNatClampNeg))] p1.2)).bind fun p2 =>
      (if p1.1 = p2.1 then
      (j 1593 [some (.ref 9), some (.ref 16), some (.ref 60), some (.ref 86), some (.int i), none, none] [] p2.2)
      else
      none)) none)) none) := by exact rfl
set_option maxRecDepth 40000 in
set_option maxHeartbeats 4000000 in
theorem uw_8 (n : Nat) (xs : Nat → Int32) (N d : Nat) (j : mmG) (M : mmM) (i : Int32) : mm_ex (mm_Y n xs) (mm_E n xs N d) lw_cs j 1200 (mm_at 527 cd_law) [some (.ref 9), some (.ref 16), some (.ref 60), some (.ref 86), some (.int i), none, none] [] M =
  (cond (mm_inb (i + (1 : Int32)) n)
  (cond (mm_inb (i + (2 : Int32)) n)
    ((mm_aI (mm_E n xs N d 127 [.ref 16, .int (xs ((i + (1 : Int32)).toNatClampNeg)), .int (xs ((i + (2 : Int32)).toNatClampNeg))] M)).bind fun p1 =>
      (cond (mm_inb (i + (1 : Int32)) n)
      (cond (mm_inb (i + (2 : Int32)) n)
        ((mm_aI (mm_E n xs N d 243 [.ref 60, .int (xs ((i + (1 : Int32)).toNatClampNeg)), .int (xs ((i + (2 : Int32)).toNatClampNeg))] p1.2)).bind fun p2 =>
          (if p1.1 = p2.1 then
          (j 1593 [some (.ref 9), some (.ref 16), some (.ref 60), some (.ref 86), some (.int i), none, none] [] p2.2)
          else
          none)) none) none)) none) none) := by exact rfl
set_option maxRecDepth 40000 in
set_option maxHeartbeats 4000000 in
theorem uw_9 (n : Nat) (xs : Nat → Int32) (N d : Nat) (j : mmG) (M : mmM) (i : Int32) : mm_ex (mm_Y n xs) (mm_E n xs N d) lw_cs j 1200 (mm_at 564 cd_law) [some (.ref 9), some (.ref 16), some (.ref 60), some (.ref 86), some (.int i), none, none] [] M =
  (cond (mm_inb (i + (1 : Int32)) n)
  ((mm_aI (mm_E n xs N d 128 [.ref 16, .int (xs ((i + (1 : Int32)).toNatClampNeg))] M)).bind fun p1 =>
    (cond (mm_inb (i + (1 : Int32)) n)
    ((mm_aI (mm_E n xs N d 244 [.ref 60, .int (xs ((i + (1 : Int32)).toNatClampNeg))] p1.2)).bind fun p2 =>
      (if p1.1 = p2.1 then
      (j 1593 [some (.ref 9), some (.ref 16), some (.ref 60), some (.ref 86), some (.int i), none, none] [] p2.2)
      else
      none)) none)) none) := by exact rfl
set_option maxRecDepth 40000 in
set_option maxHeartbeats 4000000 in
theorem uw_10 (n : Nat) (xs : Nat → Int32) (N d : Nat) (j : mmG) (M : mmM) (i : Int32) : mm_ex (mm_Y n xs) (mm_E n xs N d) lw_cs j 1200 (mm_at 589 cd_law) [some (.ref 9), some (.ref 16), some (.ref 60), some (.ref 86), some (.int i), none, none] [] M =
  ((mm_aI (mm_E n xs N d 129 [.ref 16] M)).bind fun p1 =>
  ((mm_aI (mm_E n xs N d 245 [.ref 60] p1.2)).bind fun p2 =>
  (if p1.1 = p2.1 then
  (j 1593 [some (.ref 9), some (.ref 16), some (.ref 60), some (.ref 86), some (.int i), none, none] [] p2.2)
  else
  none))) := by exact rfl
set_option maxRecDepth 40000 in
set_option maxHeartbeats 4000000 in
theorem uw_11 (n : Nat) (xs : Nat → Int32) (N d : Nat) (j : mmG) (M : mmM) (i : Int32) : mm_ex (mm_Y n xs) (mm_E n xs N d) lw_cs j 1200 (mm_at 602 cd_law) [some (.ref 9), some (.ref 16), some (.ref 60), some (.ref 86), some (.int i), none, none] [] M =
  ((mm_aI (mm_E n xs N d 130 [.ref 16] M)).bind fun p1 =>
  ((mm_aI (mm_E n xs N d 246 [.ref 60] p1.2)).bind fun p2 =>
  (if p1.1 = p2.1 then
  (j 1593 [some (.ref 9), some (.ref 16), some (.ref 60), some (.ref 86), some (.int i), none, none] [] p2.2)
  else
  none))) := by exact rfl
set_option maxRecDepth 40000 in
set_option maxHeartbeats 4000000 in
theorem uw_12 (n : Nat) (xs : Nat → Int32) (N d : Nat) (j : mmG) (M : mmM) (i : Int32) : mm_ex (mm_Y n xs) (mm_E n xs N d) lw_cs j 1200 (mm_at 615 cd_law) [some (.ref 9), some (.ref 16), some (.ref 60), some (.ref 86), some (.int i), none, none] [] M =
  (cond (mm_inb (i + (1 : Int32)) n)
  ((mm_aI (mm_E n xs N d 131 [.ref 16, .int (xs ((i + (1 : Int32)).toNatClampNeg))] M)).bind fun p1 =>
    (cond (mm_inb (i + (1 : Int32)) n)
    ((mm_aI (mm_E n xs N d 247 [.ref 60, .int (xs ((i + (1 : Int32)).toNatClampNeg))] p1.2)).bind fun p2 =>
      (if p1.1 = p2.1 then
      (j 1593 [some (.ref 9), some (.ref 16), some (.ref 60), some (.ref 86), some (.int i), none, none] [] p2.2)
      else
      none)) none)) none) := by exact rfl
set_option maxRecDepth 40000 in
set_option maxHeartbeats 4000000 in
theorem uw_13 (n : Nat) (xs : Nat → Int32) (N d : Nat) (j : mmG) (M : mmM) (i : Int32) : mm_ex (mm_Y n xs) (mm_E n xs N d) lw_cs j 1200 (mm_at 640 cd_law) [some (.ref 9), some (.ref 16), some (.ref 60), some (.ref 86), some (.int i), none, none] [] M =
  (cond (mm_inb (i + (1 : Int32)) n)
  ((mm_aI (mm_E n xs N d 132 [.ref 16, .int (xs ((i + (1 : Int32)).toNatClampNeg))] M)).bind fun p1 =>
    (cond (mm_inb (i + (1 : Int32)) n)
    ((mm_aI (mm_E n xs N d 248 [.ref 60, .int (xs ((i + (1 : Int32)).toNatClampNeg))] p1.2)).bind fun p2 =>
      (if p1.1 = p2.1 then
      (j 1593 [some (.ref 9), some (.ref 16), some (.ref 60), some (.ref 86), some (.int i), none, none] [] p2.2)
      else
      none)) none)) none) := by exact rfl
set_option maxRecDepth 40000 in
set_option maxHeartbeats 4000000 in
theorem uw_14 (n : Nat) (xs : Nat → Int32) (N d : Nat) (j : mmG) (M : mmM) (i : Int32) : mm_ex (mm_Y n xs) (mm_E n xs N d) lw_cs j 1200 (mm_at 665 cd_law) [some (.ref 9), some (.ref 16), some (.ref 60), some (.ref 86), some (.int i), none, none] [] M =
  ((mm_aI (mm_E n xs N d 133 [.ref 16] M)).bind fun p1 =>
  ((mm_aI (mm_E n xs N d 249 [.ref 60] p1.2)).bind fun p2 =>
  (if p1.1 = p2.1 then
  (j 1593 [some (.ref 9), some (.ref 16), some (.ref 60), some (.ref 86), some (.int i), none, none] [] p2.2)
  else
  none))) := by exact rfl
set_option maxRecDepth 40000 in
set_option maxHeartbeats 4000000 in
theorem uw_15 (n : Nat) (xs : Nat → Int32) (N d : Nat) (j : mmG) (M : mmM) (i : Int32) : mm_ex (mm_Y n xs) (mm_E n xs N d) lw_cs j 1200 (mm_at 678 cd_law) [some (.ref 9), some (.ref 16), some (.ref 60), some (.ref 86), some (.int i), none, none] [] M =
  (cond (mm_inb (i + (1 : Int32)) n)
  ((mm_aI (mm_E n xs N d 134 [.ref 16, .int (xs ((i + (1 : Int32)).toNatClampNeg))] M)).bind fun p1 =>
    (cond (mm_inb (i + (1 : Int32)) n)
    ((mm_aI (mm_E n xs N d 250 [.ref 60, .int (xs ((i + (1 : Int32)).toNatClampNeg))] p1.2)).bind fun p2 =>
      (if p1.1 = p2.1 then
      (j 1593 [some (.ref 9), some (.ref 16), some (.ref 60), some (.ref 86), some (.int i), none, none] [] p2.2)
      else
      none)) none)) none) := by exact rfl
set_option maxRecDepth 40000 in
set_option maxHeartbeats 4000000 in
theorem uw_16 (n : Nat) (xs : Nat → Int32) (N d : Nat) (j : mmG) (M : mmM) (i : Int32) : mm_ex (mm_Y n xs) (mm_E n xs N d) lw_cs j 1200 (mm_at 703 cd_law) [some (.ref 9), some (.ref 16), some (.ref 60), some (.ref 86), some (.int i), none, none] [] M =
  (cond (mm_inb (i + (1 : Int32)) n)
  ((mm_aI (mm_E n xs N d 135 [.ref 16, .int (xs ((i + (1 : Int32)).toNatClampNeg))] M)).bind fun p1 =>
    (cond (mm_inb (i + (1 : Int32)) n)
    ((mm_aI (mm_E n xs N d 253 [.ref 60, .int (xs ((i + (1 : Int32)).toNatClampNeg))] p1.2)).bind fun p2 =>
      (if p1.1 = p2.1 then
      (j 1593 [some (.ref 9), some (.ref 16), some (.ref 60), some (.ref 86), some (.int i), none, none] [] p2.2)
      else
      none)) none)) none) := by exact rfl
set_option maxRecDepth 40000 in
set_option maxHeartbeats 4000000 in
theorem uw_17 (n : Nat) (xs : Nat → Int32) (N d : Nat) (j : mmG) (M : mmM) (i : Int32) : mm_ex (mm_Y n xs) (mm_E n xs N d) lw_cs j 1200 (mm_at 728 cd_law) [some (.ref 9), some (.ref 16), some (.ref 60), some (.ref 86), some (.int i), none, none] [] M =
  (cond (mm_inb (i + (1 : Int32)) n)
  ((mm_aI (mm_E n xs N d 136 [.ref 16, .int (xs ((i + (1 : Int32)).toNatClampNeg))] M)).bind fun p1 =>
    (cond (mm_inb (i + (1 : Int32)) n)
    ((mm_aI (mm_E n xs N d 254 [.ref 60, .int (xs ((i + (1 : Int32)).toNatClampNeg))] p1.2)).bind fun p2 =>
      (if p1.1 = p2.1 then
      (j 1593 [some (.ref 9), some (.ref 16), some (.ref 60), some (.ref 86), some (.int i), none, none] [] p2.2)
      else
      none)) none)) none) := by exact rfl
set_option maxRecDepth 40000 in
set_option maxHeartbeats 4000000 in
theorem uw_18 (n : Nat) (xs : Nat → Int32) (N d : Nat) (j : mmG) (M : mmM) (i : Int32) : mm_ex (mm_Y n xs) (mm_E n xs N d) lw_cs j 1200 (mm_at 753 cd_law) [some (.ref 9), some (.ref 16), some (.ref 60), some (.ref 86), some (.int i), none, none] [] M =
  (cond (mm_inb (i + (1 : Int32)) n)
  (cond (mm_inb (i + (2 : Int32)) n)
    (cond (mm_inb (i + (3 : Int32)) n)
      ((mm_aI (mm_E n xs N d 137 [.ref 16, .int (xs ((i + (1 : Int32)).toNatClampNeg)), .long ((((xs ((i + (2 : Int32)).toNatClampNeg)).toInt64) <<< ((32 : Int32).toInt64 &&& 63)) ||| (((xs ((i + (3 : Int32)).toNatClampNeg)).toInt64) &&& (4294967295 : Int64)))] M)).bind fun p1 =>
        (cond (mm_inb (i + (1 : Int32)) n)
        (cond (mm_inb (i + (2 : Int32)) n)
          (cond (mm_inb (i + (3 : Int32)) n)
            ((mm_aI (mm_E n xs N d 257 [.ref 60, .int (xs ((i + (1 : Int32)).toNatClampNeg)), .long ((((xs ((i + (2 : Int32)).toNatClampNeg)).toInt64) <<< ((32 : Int32).toInt64 &&& 63)) ||| (((xs ((i + (3 : Int32)).toNatClampNeg)).toInt64) &&& (4294967295 : Int64)))] p1.2)).bind fun p2 =>
              (if p1.1 = p2.1 then
              (j 1593 [some (.ref 9), some (.ref 16), some (.ref 60), some (.ref 86), some (.int i), none, none] [] p2.2)
              else
              none)) none) none) none)) none) none) none) := by exact rfl
set_option maxRecDepth 40000 in
set_option maxHeartbeats 4000000 in
theorem uw_19 (n : Nat) (xs : Nat → Int32) (N d : Nat) (j : mmG) (M : mmM) (i : Int32) : mm_ex (mm_Y n xs) (mm_E n xs N d) lw_cs j 1200 (mm_at 822 cd_law) [some (.ref 9), some (.ref 16), some (.ref 60), some (.ref 86), some (.int i), none, none] [] M =
  (cond (mm_inb (i + (1 : Int32)) n)
  ((mm_aI (mm_E n xs N d 138 [.ref 16, .int (xs ((i + (1 : Int32)).toNatClampNeg))] M)).bind fun p1 =>
    (cond (mm_inb (i + (1 : Int32)) n)
    ((mm_aI (mm_E n xs N d 258 [.ref 60, .int (xs ((i + (1 : Int32)).toNatClampNeg))] p1.2)).bind fun p2 =>
      (if p1.1 = p2.1 then
      (j 1593 [some (.ref 9), some (.ref 16), some (.ref 60), some (.ref 86), some (.int i), none, none] [] p2.2)
      else
      none)) none)) none) := by exact rfl
set_option maxRecDepth 40000 in
set_option maxHeartbeats 4000000 in
theorem uw_20 (n : Nat) (xs : Nat → Int32) (N d : Nat) (j : mmG) (M : mmM) (i : Int32) : mm_ex (mm_Y n xs) (mm_E n xs N d) lw_cs j 1200 (mm_at 847 cd_law) [some (.ref 9), some (.ref 16), some (.ref 60), some (.ref 86), some (.int i), none, none] [] M =
  ((mm_aI (mm_E n xs N d 139 [.ref 16] M)).bind fun p1 =>
  ((mm_aI (mm_E n xs N d 259 [.ref 60] p1.2)).bind fun p2 =>
  (if p1.1 = p2.1 then
  (j 1593 [some (.ref 9), some (.ref 16), some (.ref 60), some (.ref 86), some (.int i), none, none] [] p2.2)
  else
  none))) := by exact rfl
set_option maxRecDepth 40000 in
set_option maxHeartbeats 4000000 in
theorem uw_21 (n : Nat) (xs : Nat → Int32) (N d : Nat) (j : mmG) (M : mmM) (i : Int32) : mm_ex (mm_Y n xs) (mm_E n xs N d) lw_cs j 1200 (mm_at 860 cd_law) [some (.ref 9), some (.ref 16), some (.ref 60), some (.ref 86), some (.int i), none, none] [] M =
  (cond (mm_inb (i + (1 : Int32)) n)
  (cond (mm_inb (i + (2 : Int32)) n)
    ((mm_aI (mm_E n xs N d 140 [.ref 16, .int (xs ((i + (1 : Int32)).toNatClampNeg)), .int (xs ((i + (2 : Int32)).toNatClampNeg))] M)).bind fun p1 =>
      (cond (mm_inb (i + (1 : Int32)) n)
      (cond (mm_inb (i + (2 : Int32)) n)
        ((mm_aI (mm_E n xs N d 260 [.ref 60, .int (xs ((i + (1 : Int32)).toNatClampNeg)), .int (xs ((i + (2 : Int32)).toNatClampNeg))] p1.2)).bind fun p2 =>
          (if p1.1 = p2.1 then
          (j 1593 [some (.ref 9), some (.ref 16), some (.ref 60), some (.ref 86), some (.int i), none, none] [] p2.2)
          else
          none)) none) none)) none) none) := by exact rfl
set_option maxRecDepth 40000 in
set_option maxHeartbeats 4000000 in
theorem uw_22 (n : Nat) (xs : Nat → Int32) (N d : Nat) (j : mmG) (M : mmM) (i : Int32) : mm_ex (mm_Y n xs) (mm_E n xs N d) lw_cs j 1200 (mm_at 897 cd_law) [some (.ref 9), some (.ref 16), some (.ref 60), some (.ref 86), some (.int i), none, none] [] M =
  (cond (mm_inb (i + (1 : Int32)) n)
  (cond (mm_inb (i + (2 : Int32)) n)
    ((mm_aI (mm_E n xs N d 142 [.ref 16, .int (xs ((i + (1 : Int32)).toNatClampNeg)), .int (xs ((i + (2 : Int32)).toNatClampNeg))] M)).bind fun p1 =>
      (cond (mm_inb (i + (1 : Int32)) n)
      (cond (mm_inb (i + (2 : Int32)) n)
        ((mm_aI (mm_E n xs N d 264 [.ref 60, .int (xs ((i + (1 : Int32)).toNatClampNeg)), .int (xs ((i + (2 : Int32)).toNatClampNeg))] p1.2)).bind fun p2 =>
          (if p1.1 = p2.1 then
          (j 1593 [some (.ref 9), some (.ref 16), some (.ref 60), some (.ref 86), some (.int i), none, none] [] p2.2)
          else
          none)) none) none)) none) none) := by exact rfl
set_option maxRecDepth 40000 in
set_option maxHeartbeats 4000000 in
theorem uw_23 (n : Nat) (xs : Nat → Int32) (N d : Nat) (j : mmG) (M : mmM) (i : Int32) : mm_ex (mm_Y n xs) (mm_E n xs N d) lw_cs j 1200 (mm_at 934 cd_law) [some (.ref 9), some (.ref 16), some (.ref 60), some (.ref 86), some (.int i), none, none] [] M =
  (cond (mm_inb (i + (1 : Int32)) n)
  (cond (mm_inb (i + (2 : Int32)) n)
    ((mm_aI (mm_E n xs N d 144 [.ref 16, .int (xs ((i + (1 : Int32)).toNatClampNeg)), .int (xs ((i + (2 : Int32)).toNatClampNeg))] M)).bind fun p1 =>
      (cond (mm_inb (i + (1 : Int32)) n)
      (cond (mm_inb (i + (2 : Int32)) n)
        ((mm_aI (mm_E n xs N d 266 [.ref 60, .int (xs ((i + (1 : Int32)).toNatClampNeg)), .int (xs ((i + (2 : Int32)).toNatClampNeg))] p1.2)).bind fun p2 =>
          (if p1.1 = p2.1 then
          (j 1593 [some (.ref 9), some (.ref 16), some (.ref 60), some (.ref 86), some (.int i), none, none] [] p2.2)
          else
          none)) none) none)) none) none) := by exact rfl
set_option maxRecDepth 40000 in
set_option maxHeartbeats 4000000 in
theorem uw_24 (n : Nat) (xs : Nat → Int32) (N d : Nat) (j : mmG) (M : mmM) (i : Int32) : mm_ex (mm_Y n xs) (mm_E n xs N d) lw_cs j 1200 (mm_at 971 cd_law) [some (.ref 9), some (.ref 16), some (.ref 60), some (.ref 86), some (.int i), none, none] [] M =
  (cond (mm_inb (i + (1 : Int32)) n)
  (cond (mm_inb (i + (2 : Int32)) n)
    ((mm_aI (mm_E n xs N d 146 [.ref 16, .int (xs ((i + (1 : Int32)).toNatClampNeg)), .int (xs ((i + (2 : Int32)).toNatClampNeg))] M)).bind fun p1 =>
      (cond (mm_inb (i + (1 : Int32)) n)
      (cond (mm_inb (i + (2 : Int32)) n)
        ((mm_aI (mm_E n xs N d 267 [.ref 60, .int (xs ((i + (1 : Int32)).toNatClampNeg)), .int (xs ((i + (2 : Int32)).toNatClampNeg))] p1.2)).bind fun p2 =>
          (if p1.1 = p2.1 then
          (j 1593 [some (.ref 9), some (.ref 16), some (.ref 60), some (.ref 86), some (.int i), none, none] [] p2.2)
          else
          none)) none) none)) none) none) := by exact rfl
set_option maxRecDepth 40000 in
set_option maxHeartbeats 4000000 in
theorem uw_25 (n : Nat) (xs : Nat → Int32) (N d : Nat) (j : mmG) (M : mmM) (i : Int32) : mm_ex (mm_Y n xs) (mm_E n xs N d) lw_cs j 1200 (mm_at 1008 cd_law) [some (.ref 9), some (.ref 16), some (.ref 60), some (.ref 86), some (.int i), none, none] [] M =
  (cond (mm_inb (i + (1 : Int32)) n)
  ((mm_aI (mm_E n xs N d 147 [.ref 16, .int (xs ((i + (1 : Int32)).toNatClampNeg))] M)).bind fun p1 =>
    (cond (mm_inb (i + (1 : Int32)) n)
    ((mm_aI (mm_E n xs N d 268 [.ref 60, .int (xs ((i + (1 : Int32)).toNatClampNeg))] p1.2)).bind fun p2 =>
      (if p1.1 = p2.1 then
      (j 1593 [some (.ref 9), some (.ref 16), some (.ref 60), some (.ref 86), some (.int i), none, none] [] p2.2)
      else
      none)) none)) none) := by exact rfl
set_option maxRecDepth 40000 in
set_option maxHeartbeats 4000000 in
theorem uw_26 (n : Nat) (xs : Nat → Int32) (N d : Nat) (j : mmG) (M : mmM) (i : Int32) : mm_ex (mm_Y n xs) (mm_E n xs N d) lw_cs j 1200 (mm_at 1033 cd_law) [some (.ref 9), some (.ref 16), some (.ref 60), some (.ref 86), some (.int i), none, none] [] M =
  (cond (mm_inb (i + (1 : Int32)) n)
  (cond (mm_inb (i + (2 : Int32)) n)
    (cond (mm_inb (i + (3 : Int32)) n)
      ((mm_aI (mm_E n xs N d 148 [.ref 16, .int (xs ((i + (1 : Int32)).toNatClampNeg)), .int (xs ((i + (2 : Int32)).toNatClampNeg)), .int (xs ((i + (3 : Int32)).toNatClampNeg))] M)).bind fun p1 =>
        (cond (mm_inb (i + (1 : Int32)) n)
        (cond (mm_inb (i + (2 : Int32)) n)
          (cond (mm_inb (i + (3 : Int32)) n)
            ((mm_aI (mm_E n xs N d 270 [.ref 60, .int (xs ((i + (1 : Int32)).toNatClampNeg)), .int (xs ((i + (2 : Int32)).toNatClampNeg)), .int (xs ((i + (3 : Int32)).toNatClampNeg))] p1.2)).bind fun p2 =>
              (if p1.1 = p2.1 then
              (j 1593 [some (.ref 9), some (.ref 16), some (.ref 60), some (.ref 86), some (.int i), none, none] [] p2.2)
              else
              none)) none) none) none)) none) none) none) := by exact rfl
set_option maxRecDepth 40000 in
set_option maxHeartbeats 4000000 in
theorem uw_27 (n : Nat) (xs : Nat → Int32) (N d : Nat) (j : mmG) (M : mmM) (i : Int32) : mm_ex (mm_Y n xs) (mm_E n xs N d) lw_cs j 1200 (mm_at 1082 cd_law) [some (.ref 9), some (.ref 16), some (.ref 60), some (.ref 86), some (.int i), none, none] [] M =
  (cond (mm_inb (i + (1 : Int32)) n)
  ((mm_aI (mm_E n xs N d 149 [.ref 16, .int (xs ((i + (1 : Int32)).toNatClampNeg))] M)).bind fun p1 =>
    (cond (mm_inb (i + (1 : Int32)) n)
    ((mm_aI (mm_E n xs N d 272 [.ref 60, .int (xs ((i + (1 : Int32)).toNatClampNeg))] p1.2)).bind fun p2 =>
      (if p1.1 = p2.1 then
      (j 1593 [some (.ref 9), some (.ref 16), some (.ref 60), some (.ref 86), some (.int i), none, none] [] p2.2)
      else
      none)) none)) none) := by exact rfl
set_option maxRecDepth 40000 in
set_option maxHeartbeats 4000000 in
theorem uw_28 (n : Nat) (xs : Nat → Int32) (N d : Nat) (j : mmG) (M : mmM) (i : Int32) : mm_ex (mm_Y n xs) (mm_E n xs N d) lw_cs j 1200 (mm_at 1107 cd_law) [some (.ref 9), some (.ref 16), some (.ref 60), some (.ref 86), some (.int i), none, none] [] M =
  ((mm_aI (mm_E n xs N d 150 [.ref 16] M)).bind fun p1 =>
  ((mm_aI (mm_E n xs N d 273 [.ref 60] p1.2)).bind fun p2 =>
  (if p1.1 = p2.1 then
  (j 1593 [some (.ref 9), some (.ref 16), some (.ref 60), some (.ref 86), some (.int i), none, none] [] p2.2)
  else
  none))) := by exact rfl
set_option maxRecDepth 40000 in
set_option maxHeartbeats 4000000 in
theorem uw_29 (n : Nat) (xs : Nat → Int32) (N d : Nat) (j : mmG) (M : mmM) (i : Int32) : mm_ex (mm_Y n xs) (mm_E n xs N d) lw_cs j 1200 (mm_at 1120 cd_law) [some (.ref 9), some (.ref 16), some (.ref 60), some (.ref 86), some (.int i), none, none] [] M =
  (cond (mm_inb (i + (1 : Int32)) n)
  ((mm_aI (mm_E n xs N d 151 [.ref 16, .int (xs ((i + (1 : Int32)).toNatClampNeg))] M)).bind fun p1 =>
    (cond (mm_inb (i + (1 : Int32)) n)
    ((mm_aI (mm_E n xs N d 275 [.ref 60, .int (xs ((i + (1 : Int32)).toNatClampNeg))] p1.2)).bind fun p2 =>
      (if p1.1 = p2.1 then
      (j 1593 [some (.ref 9), some (.ref 16), some (.ref 60), some (.ref 86), some (.int i), none, none] [] p2.2)
      else
      none)) none)) none) := by exact rfl
set_option maxRecDepth 40000 in
set_option maxHeartbeats 4000000 in
theorem uw_30 (n : Nat) (xs : Nat → Int32) (N d : Nat) (j : mmG) (M : mmM) (i : Int32) : mm_ex (mm_Y n xs) (mm_E n xs N d) lw_cs j 1200 (mm_at 1145 cd_law) [some (.ref 9), some (.ref 16), some (.ref 60), some (.ref 86), some (.int i), none, none] [] M =
  (cond (mm_inb (i + (1 : Int32)) n)
  (cond (mm_inb (i + (2 : Int32)) n)
    (cond (mm_inb (i + (3 : Int32)) n)
      (cond (mm_inb (i + (4 : Int32)) n)
        (if (xs ((i + (4 : Int32)).toNatClampNeg)) = 0 then
          ((mm_aI (mm_E n xs N d 152 [.ref 16, .int (xs ((i + (1 : Int32)).toNatClampNeg)), .int (xs ((i + (2 : Int32)).toNatClampNeg)), .int (xs ((i + (3 : Int32)).toNatClampNeg)), .int (0 : Int32)] M)).bind fun p1 =>
            (cond (mm_inb (i + (1 : Int32)) n)
            (cond (mm_inb (i + (2 : Int32)) n)
              (cond (mm_inb (i + (3 : Int32)) n)
                (cond (mm_inb (i + (4 : Int32)) n)
                  (if (xs ((i + (4 : Int32)).toNatClampNeg)) = 0 then
                    ((mm_aI (mm_E n xs N d 276 [.ref 60, .int (xs ((i + (1 : Int32)).toNatClampNeg)), .int (xs ((i + (2 : Int32)).toNatClampNeg)), .int (xs ((i + (3 : Int32)).toNatClampNeg)), .int (0 : Int32)] p1.2)).bind fun p2 =>
                      (if p1.1 = p2.1 then
                      (j 1593 [some (.ref 9), some (.ref 16), some (.ref 60), some (.ref 86), some (.int i), none, none] [] p2.2)
                      else
                      none))
                    else
                    ((mm_aI (mm_E n xs N d 276 [.ref 60, .int (xs ((i + (1 : Int32)).toNatClampNeg)), .int (xs ((i + (2 : Int32)).toNatClampNeg)), .int (xs ((i + (3 : Int32)).toNatClampNeg)), .int (1 : Int32)] p1.2)).bind fun p3 =>
                      (if p1.1 = p3.1 then
                      (j 1593 [some (.ref 9), some (.ref 16), some (.ref 60), some (.ref 86), some (.int i), none, none] [] p3.2)
                      else
                      none))) none) none) none) none))
          else
          ((mm_aI (mm_E n xs N d 152 [.ref 16, .int (xs ((i + (1 : Int32)).toNatClampNeg)), .int (xs ((i + (2 : Int32)).toNatClampNeg)), .int (xs ((i + (3 : Int32)).toNatClampNeg)), .int (1 : Int32)] M)).bind fun p4 =>
            (cond (mm_inb (i + (1 : Int32)) n)
            (cond (mm_inb (i + (2 : Int32)) n)
              (cond (mm_inb (i + (3 : Int32)) n)
                (cond (mm_inb (i + (4 : Int32)) n)
                  (if (xs ((i + (4 : Int32)).toNatClampNeg)) = 0 then
                    ((mm_aI (mm_E n xs N d 276 [.ref 60, .int (xs ((i + (1 : Int32)).toNatClampNeg)), .int (xs ((i + (2 : Int32)).toNatClampNeg)), .int (xs ((i + (3 : Int32)).toNatClampNeg)), .int (0 : Int32)] p4.2)).bind fun p5 =>
                      (if p4.1 = p5.1 then
                      (j 1593 [some (.ref 9), some (.ref 16), some (.ref 60), some (.ref 86), some (.int i), none, none] [] p5.2)
                      else
                      none))
                    else
                    ((mm_aI (mm_E n xs N d 276 [.ref 60, .int (xs ((i + (1 : Int32)).toNatClampNeg)), .int (xs ((i + (2 : Int32)).toNatClampNeg)), .int (xs ((i + (3 : Int32)).toNatClampNeg)), .int (1 : Int32)] p4.2)).bind fun p6 =>
                      (if p4.1 = p6.1 then
                      (j 1593 [some (.ref 9), some (.ref 16), some (.ref 60), some (.ref 86), some (.int i), none, none] [] p6.2)
                      else
                      none))) none) none) none) none))) none) none) none) none) := by exact rfl
set_option maxRecDepth 40000 in
set_option maxHeartbeats 4000000 in
theorem uw_31 (n : Nat) (xs : Nat → Int32) (N d : Nat) (j : mmG) (M : mmM) (i : Int32) : mm_ex (mm_Y n xs) (mm_E n xs N d) lw_cs j 1200 (mm_at 1222 cd_law) [some (.ref 9), some (.ref 16), some (.ref 60), some (.ref 86), some (.int i), none, none] [] M =
  (cond (mm_inb (i + (1 : Int32)) n)
  ((mm_aI (mm_E n xs N d 153 [.ref 16, .int (xs ((i + (1 : Int32)).toNatClampNeg))] M)).bind fun p1 =>
    (cond (mm_inb (i + (1 : Int32)) n)
    ((mm_aI (mm_E n xs N d 279 [.ref 60, .int (xs ((i + (1 : Int32)).toNatClampNeg))] p1.2)).bind fun p2 =>
      (if p1.1 = p2.1 then
      (j 1593 [some (.ref 9), some (.ref 16), some (.ref 60), some (.ref 86), some (.int i), none, none] [] p2.2)
      else
      none)) none)) none) := by exact rfl
set_option maxRecDepth 40000 in
set_option maxHeartbeats 4000000 in
theorem uw_32 (n : Nat) (xs : Nat → Int32) (N d : Nat) (j : mmG) (M : mmM) (i : Int32) : mm_ex (mm_Y n xs) (mm_E n xs N d) lw_cs j 1200 (mm_at 1247 cd_law) [some (.ref 9), some (.ref 16), some (.ref 60), some (.ref 86), some (.int i), none, none] [] M =
  (cond (mm_inb (i + (1 : Int32)) n)
  (cond (mm_inb (i + (2 : Int32)) n)
    ((mm_aI (mm_E n xs N d 157 [.ref 16, .int (xs ((i + (1 : Int32)).toNatClampNeg)), .int (xs ((i + (2 : Int32)).toNatClampNeg))] M)).bind fun p1 =>
      (cond (mm_inb (i + (1 : Int32)) n)
      (cond (mm_inb (i + (2 : Int32)) n)
        ((mm_aI (mm_E n xs N d 280 [.ref 60, .int (xs ((i + (1 : Int32)).toNatClampNeg)), .int (xs ((i + (2 : Int32)).toNatClampNeg))] p1.2)).bind fun p2 =>
          (if p1.1 = p2.1 then
          (j 1593 [some (.ref 9), some (.ref 16), some (.ref 60), some (.ref 86), some (.int i), none, none] [] p2.2)
          else
          none)) none) none)) none) none) := by exact rfl
set_option maxRecDepth 40000 in
set_option maxHeartbeats 4000000 in
theorem uw_33 (n : Nat) (xs : Nat → Int32) (N d : Nat) (j : mmG) (M : mmM) (i : Int32) : mm_ex (mm_Y n xs) (mm_E n xs N d) lw_cs j 1200 (mm_at 1284 cd_law) [some (.ref 9), some (.ref 16), some (.ref 60), some (.ref 86), some (.int i), none, none] [] M =
  (cond (mm_inb (i + (1 : Int32)) n)
  (cond (mm_inb (i + (2 : Int32)) n)
    (cond (mm_inb (i + (3 : Int32)) n)
      (cond (mm_inb (i + (4 : Int32)) n)
        (cond (mm_inb (i + (5 : Int32)) n)
          ((mm_aI (mm_E n xs N d 159 [.ref 16, .int (xs ((i + (1 : Int32)).toNatClampNeg)), .int (xs ((i + (2 : Int32)).toNatClampNeg)), .int (xs ((i + (3 : Int32)).toNatClampNeg)), .int (xs ((i + (4 : Int32)).toNatClampNeg)), .int (xs ((i + (5 : Int32)).toNatClampNeg))] M)).bind fun p1 =>
            (cond (mm_inb (i + (1 : Int32)) n)
            (cond (mm_inb (i + (2 : Int32)) n)
              (cond (mm_inb (i + (3 : Int32)) n)
                (cond (mm_inb (i + (4 : Int32)) n)
                  (cond (mm_inb (i + (5 : Int32)) n)
                    ((mm_aI (mm_E n xs N d 283 [.ref 60, .int (xs ((i + (1 : Int32)).toNatClampNeg)), .int (xs ((i + (2 : Int32)).toNatClampNeg)), .int (xs ((i + (3 : Int32)).toNatClampNeg)), .int (xs ((i + (4 : Int32)).toNatClampNeg)), .int (xs ((i + (5 : Int32)).toNatClampNeg))] p1.2)).bind fun p2 =>
                      (if p1.1 = p2.1 then
                      (j 1593 [some (.ref 9), some (.ref 16), some (.ref 60), some (.ref 86), some (.int i), none, none] [] p2.2)
                      else
                      none)) none) none) none) none) none)) none) none) none) none) none) := by exact rfl
set_option maxRecDepth 40000 in
set_option maxHeartbeats 4000000 in
theorem uw_34 (n : Nat) (xs : Nat → Int32) (N d : Nat) (j : mmG) (M : mmM) (i : Int32) : mm_ex (mm_Y n xs) (mm_E n xs N d) lw_cs j 1200 (mm_at 1357 cd_law) [some (.ref 9), some (.ref 16), some (.ref 60), some (.ref 86), some (.int i), none, none] [] M =
  (cond (mm_inb (i + (1 : Int32)) n)
  (cond (mm_inb (i + (2 : Int32)) n)
    (cond (mm_inb (i + (3 : Int32)) n)
      ((mm_aI (mm_E n xs N d 160 [.ref 16, .int (xs ((i + (1 : Int32)).toNatClampNeg)), .int (xs ((i + (2 : Int32)).toNatClampNeg)), .int (xs ((i + (3 : Int32)).toNatClampNeg))] M)).bind fun p1 =>
        (cond (mm_inb (i + (1 : Int32)) n)
        (cond (mm_inb (i + (2 : Int32)) n)
          (cond (mm_inb (i + (3 : Int32)) n)
            ((mm_aI (mm_E n xs N d 285 [.ref 60, .int (xs ((i + (1 : Int32)).toNatClampNeg)), .int (xs ((i + (2 : Int32)).toNatClampNeg)), .int (xs ((i + (3 : Int32)).toNatClampNeg))] p1.2)).bind fun p2 =>
              (if p1.1 = p2.1 then
              (j 1593 [some (.ref 9), some (.ref 16), some (.ref 60), some (.ref 86), some (.int i), none, none] [] p2.2)
              else
              none)) none) none) none)) none) none) none) := by exact rfl
set_option maxRecDepth 40000 in
set_option maxHeartbeats 4000000 in
theorem uw_35 (n : Nat) (xs : Nat → Int32) (N d : Nat) (j : mmG) (M : mmM) (i : Int32) : mm_ex (mm_Y n xs) (mm_E n xs N d) lw_cs j 1200 (mm_at 1406 cd_law) [some (.ref 9), some (.ref 16), some (.ref 60), some (.ref 86), some (.int i), none, none] [] M =
  (cond (mm_inb (i + (1 : Int32)) n)
  (cond (mm_inb (i + (2 : Int32)) n)
    (cond (mm_inb (i + (3 : Int32)) n)
      ((mm_aI (mm_E n xs N d 164 [.ref 16, .int (xs ((i + (1 : Int32)).toNatClampNeg)), .int (xs ((i + (2 : Int32)).toNatClampNeg)), .int (xs ((i + (3 : Int32)).toNatClampNeg))] M)).bind fun p1 =>
        (cond (mm_inb (i + (1 : Int32)) n)
        (cond (mm_inb (i + (2 : Int32)) n)
          (cond (mm_inb (i + (3 : Int32)) n)
            ((mm_aI (mm_E n xs N d 287 [.ref 60, .int (xs ((i + (1 : Int32)).toNatClampNeg)), .int (xs ((i + (2 : Int32)).toNatClampNeg)), .int (xs ((i + (3 : Int32)).toNatClampNeg))] p1.2)).bind fun p2 =>
              (if p1.1 = p2.1 then
              (j 1593 [some (.ref 9), some (.ref 16), some (.ref 60), some (.ref 86), some (.int i), none, none] [] p2.2)
              else
              none)) none) none) none)) none) none) none) := by exact rfl
set_option maxRecDepth 40000 in
set_option maxHeartbeats 4000000 in
theorem uw_36 (n : Nat) (xs : Nat → Int32) (N d : Nat) (j : mmG) (M : mmM) (i : Int32) : mm_ex (mm_Y n xs) (mm_E n xs N d) lw_cs j 1200 (mm_at 1455 cd_law) [some (.ref 9), some (.ref 16), some (.ref 60), some (.ref 86), some (.int i), none, none] [] M =
  (cond (mm_inb (i + (1 : Int32)) n)
  (cond (mm_inb (i + (2 : Int32)) n)
    ((mm_aI (mm_E n xs N d 166 [.ref 16, .int (xs ((i + (1 : Int32)).toNatClampNeg)), .int (xs ((i + (2 : Int32)).toNatClampNeg))] M)).bind fun p1 =>
      (cond (mm_inb (i + (1 : Int32)) n)
      (cond (mm_inb (i + (2 : Int32)) n)
        ((mm_aI (mm_E n xs N d 288 [.ref 60, .int (xs ((i + (1 : Int32)).toNatClampNeg)), .int (xs ((i + (2 : Int32)).toNatClampNeg))] p1.2)).bind fun p2 =>
          (if p1.1 = p2.1 then
          (j 1593 [some (.ref 9), some (.ref 16), some (.ref 60), some (.ref 86), some (.int i), none, none] [] p2.2)
          else
          none)) none) none)) none) none) := by exact rfl
set_option maxRecDepth 40000 in
set_option maxHeartbeats 4000000 in
theorem uw_37 (n : Nat) (xs : Nat → Int32) (N d : Nat) (j : mmG) (M : mmM) (i : Int32) : mm_ex (mm_Y n xs) (mm_E n xs N d) lw_cs j 1200 (mm_at 1492 cd_law) [some (.ref 9), some (.ref 16), some (.ref 60), some (.ref 86), some (.int i), none, none] [] M =
  (cond (mm_inb (i + (1 : Int32)) n)
  ((mm_aI (mm_E n xs N d 167 [.ref 16, .int (xs ((i + (1 : Int32)).toNatClampNeg))] M)).bind fun p1 =>
    (cond (mm_inb (i + (1 : Int32)) n)
    ((mm_aI (mm_E n xs N d 293 [.ref 60, .int (xs ((i + (1 : Int32)).toNatClampNeg))] p1.2)).bind fun p2 =>
      (if p1.1 = p2.1 then
      (j 1593 [some (.ref 9), some (.ref 16), some (.ref 60), some (.ref 86), some (.int i), none, none] [] p2.2)
      else
      none)) none)) none) := by exact rfl
set_option maxRecDepth 40000 in
set_option maxHeartbeats 4000000 in
theorem uw_38 (n : Nat) (xs : Nat → Int32) (N d : Nat) (j : mmG) (M : mmM) (i : Int32) : mm_ex (mm_Y n xs) (mm_E n xs N d) lw_cs j 1200 (mm_at 1517 cd_law) [some (.ref 9), some (.ref 16), some (.ref 60), some (.ref 86), some (.int i), none, none] [] M =
  (cond (mm_inb (i + (1 : Int32)) n)
  ((mm_aI (mm_E n xs N d 172 [.ref 16, .int (xs ((i + (1 : Int32)).toNatClampNeg))] M)).bind fun p1 =>
    (cond (mm_inb (i + (1 : Int32)) n)
    ((mm_aI (mm_E n xs N d 294 [.ref 60, .int (xs ((i + (1 : Int32)).toNatClampNeg))] p1.2)).bind fun p2 =>
      (if p1.1 = p2.1 then
      (j 1593 [some (.ref 9), some (.ref 16), some (.ref 60), some (.ref 86), some (.int i), none, none] [] p2.2)
      else
      none)) none)) none) := by exact rfl
set_option maxRecDepth 40000 in
set_option maxHeartbeats 4000000 in
theorem uw_39 (n : Nat) (xs : Nat → Int32) (N d : Nat) (j : mmG) (M : mmM) (i : Int32) : mm_ex (mm_Y n xs) (mm_E n xs N d) lw_cs j 1200 (mm_at 1542 cd_law) [some (.ref 9), some (.ref 16), some (.ref 60), some (.ref 86), some (.int i), none, none] [] M =
  ((mm_aI (mm_E n xs N d 173 [.ref 16] M)).bind fun p1 =>
  ((mm_aI (mm_E n xs N d 295 [.ref 60] p1.2)).bind fun p2 =>
  (if p1.1 = p2.1 then
  (j 1593 [some (.ref 9), some (.ref 16), some (.ref 60), some (.ref 86), some (.int i), none, none] [] p2.2)
  else
  none))) := by exact rfl
set_option maxRecDepth 40000 in
set_option maxHeartbeats 4000000 in
theorem uw_40 (n : Nat) (xs : Nat → Int32) (N d : Nat) (j : mmG) (M : mmM) (i : Int32) : mm_ex (mm_Y n xs) (mm_E n xs N d) lw_cs j 1200 (mm_at 1555 cd_law) [some (.ref 9), some (.ref 16), some (.ref 60), some (.ref 86), some (.int i), none, none] [] M =
  ((mm_aI (mm_E n xs N d 174 [.ref 16] M)).bind fun p1 =>
  ((mm_aI (mm_E n xs N d 296 [.ref 60] p1.2)).bind fun p2 =>
  (if p1.1 = p2.1 then
  (j 1593 [some (.ref 9), some (.ref 16), some (.ref 60), some (.ref 86), some (.int i), none, none] [] p2.2)
  else
  none))) := by exact rfl
set_option maxRecDepth 40000 in
set_option maxHeartbeats 4000000 in
theorem uw_41 (n : Nat) (xs : Nat → Int32) (N d : Nat) (j : mmG) (M : mmM) (i : Int32) : mm_ex (mm_Y n xs) (mm_E n xs N d) lw_cs j 1200 (mm_at 1568 cd_law) [some (.ref 9), some (.ref 16), some (.ref 60), some (.ref 86), some (.int i), none, none] [] M =
  (cond (mm_inb (i + (1 : Int32)) n)
  ((mm_aI (mm_E n xs N d 175 [.ref 16, .int (xs ((i + (1 : Int32)).toNatClampNeg))] M)).bind fun p1 =>
    (cond (mm_inb (i + (1 : Int32)) n)
    ((mm_aI (mm_E n xs N d 297 [.ref 60, .int (xs ((i + (1 : Int32)).toNatClampNeg))] p1.2)).bind fun p2 =>
      (if p1.1 = p2.1 then
      (j 1593 [some (.ref 9), some (.ref 16), some (.ref 60), some (.ref 86), some (.int i), none, none] [] p2.2)
      else
      none)) none)) none) := by exact rfl
set_option maxRecDepth 40000 in
set_option maxHeartbeats 4000000 in
theorem uw_6b (n : Nat) (xs : Nat → Int32) (N d : Nat) (j : mmG) (M : mmM) (i : Int32) (k : Int32) : mm_ex (mm_Y n xs) (mm_E n xs N d) lw_cs j 1200 (mm_at 451 cd_law) [some (.ref 9), some (.ref 16), some (.ref 60), some (.ref 86), some (.int i), none, none] [.int k] M =
  (cond (mm_inb (i + (1 : Int32)) n)
  (cond (mm_inb (i + (2 : Int32)) n)
    ((mm_aI (mm_E n xs N d 239 [.ref 60, .int (xs ((i + (1 : Int32)).toNatClampNeg)), .int (xs ((i + (2 : Int32)).toNatClampNeg))] M)).bind fun p1 =>
      ((mm_aI (mm_E n xs N d 182 [.ref 60] p1.2)).bind fun p2 =>
      (if p2.1 = k then
      (if k = 0 then
        (if (lg_cmp (mm_J p2.2 86 0) p1.1.toInt64) = 0 then
            (j 1593 [some (.ref 9), some (.ref 16), some (.ref 60), some (.ref 86), some (.int i), none, none] [] p2.2)
            else
            none)
        else
        (j 1593 [some (.ref 9), some (.ref 16), some (.ref 60), some (.ref 86), some (.int i), none, none] [] p2.2))
      else
      none))) none) none) := by exact rfl
