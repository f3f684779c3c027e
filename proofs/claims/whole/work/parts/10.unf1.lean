noncomputable def lp_X0_begin (n : Nat) (xs : Nat → Int32) (N d f t : Nat) : mmK := mm_lp (mm_Y n xs) (mm_E n xs N d) cd_X0_begin.1 cd_X0_begin.2.1 f t
set_option maxRecDepth 40000 in
set_option maxHeartbeats 4000000 in
theorem u_X0_begin_35_32 (n : Nat) (xs : Nat → Int32) (N d : Nat) (M : mmM)  : mm_E n xs N (d + 1) 1 [.ref 35, .ref 32] M =
  ((mm_aV (mm_E n xs N d 2 [.ref 35] M)).bind fun p1 =>
  ((mm_aI (mm_E n xs N d 94 [.ref 32, .int (0 : Int32), .int (0 : Int32), .int (1 : Int32)] p1)).bind fun p2 =>
  ((mm_aI (mm_E n xs N d 94 [.ref 32, .int (0 : Int32), .int (0 : Int32), .int (3 : Int32)] (mm_wI p2.2 35 4 p2.1))).bind fun p3 =>
  (lp_X0_begin n xs N d N 43 [some (.ref 35), some (.ref 32), some (.int (0 : Int32))] [] (mm_wI (mm_wI (mm_wI (mm_wI p3.2 35 5 p3.1) 35 6 (0 : Int32)) 35 7 (0 : Int32)) 35 8 (0 : Int32)))))) := by exact rfl
set_option maxRecDepth 40000 in
set_option maxHeartbeats 4000000 in
theorem lu_X0_begin_35_32_43 (n : Nat) (xs : Nat → Int32) (N d f : Nat) (M : mmM) (y2 : Int32) : lp_X0_begin n xs N d (f + 1) 43 [some (.ref 35), some (.ref 32), some (.int y2)] [] M =
  (if (Int32.ofNat 4) ≤ y2 then
  some (none, M)
  else
  ((mm_aI (mm_E n xs N d 94 [.ref 32, .int (1 : Int32), .int y2, .int (0 : Int32)] M)).bind fun p4 =>
    (cond (mm_inb y2 4 && Nat.ble 16 37)
    (lp_X0_begin n xs N d f 43 [some (.ref 35), some (.ref 32), some (.int (y2 + (1 : Int32)))] [] (mm_wI p4.2 37 y2.toNatClampNeg p4.1)) none))) := by exact rfl
set_option maxRecDepth 40000 in
set_option maxHeartbeats 4000000 in
theorem u_X0_beginMorning_35 (n : Nat) (xs : Nat → Int32) (N d : Nat) (M : mmM)  : mm_E n xs N (d + 1) 2 [.ref 35] M =
  ((mm_aV (mm_E n xs N d 306 [.ref 36, .int (0 : Int32)] (mm_wI (mm_wI (mm_wI (mm_wI M 35 0 (0 : Int32)) 35 1 (0 : Int32)) 35 2 (0 : Int32)) 35 3 (0 : Int32)))).bind fun p1 =>
  some (none, p1)) := by exact rfl
set_option maxRecDepth 40000 in
set_option maxHeartbeats 4000000 in
theorem u_X0_beginMorning_42 (n : Nat) (xs : Nat → Int32) (N d : Nat) (M : mmM)  : mm_E n xs N (d + 1) 2 [.ref 42] M =
  ((mm_aV (mm_E n xs N d 306 [.ref 43, .int (0 : Int32)] (mm_wI (mm_wI (mm_wI (mm_wI M 42 0 (0 : Int32)) 42 1 (0 : Int32)) 42 2 (0 : Int32)) 42 3 (0 : Int32)))).bind fun p1 =>
  some (none, p1)) := by exact rfl
set_option maxRecDepth 40000 in
set_option maxHeartbeats 4000000 in
theorem u_X0_copyFrom_35_42 (n : Nat) (xs : Nat → Int32) (N d : Nat) (M : mmM)  : mm_E n xs N (d + 1) 3 [.ref 35, .ref 42] M =
  (cond (Nat.ble (mm_cat []) 8 && (Nat.ble 16 43 && (Nat.ble 16 36 && (!decide (Int32.ofNat 4 < 0) && (!decide ((0 : Int32) < 0) && (!decide ((0 : Int32) < 0) && (Nat.ble ((0 : Int32).toNatClampNeg + (Int32.ofNat 4).toNatClampNeg) 4 && Nat.ble ((0 : Int32).toNatClampNeg + (Int32.ofNat 4).toNatClampNeg) 4)))))))
  (cond (Nat.ble (mm_cat []) 8 && (Nat.ble 16 44 && (Nat.ble 16 37 && (!decide (Int32.ofNat 4 < 0) && (!decide ((0 : Int32) < 0) && (!decide ((0 : Int32) < 0) && (Nat.ble ((0 : Int32).toNatClampNeg + (Int32.ofNat 4).toNatClampNeg) 4 && Nat.ble ((0 : Int32).toNatClampNeg + (Int32.ofNat 4).toNatClampNeg) 4)))))))
    (some (none, (mm_wR (mm_wR (mm_wI (mm_wI (mm_wI (mm_wI (mm_wI (mm_wI (mm_wI (mm_wI (mm_wI M 35 0 (mm_I M 42 0)) 35 1 (mm_I M 42 1)) 35 2 (mm_I M 42 2)) 35 3 (mm_I M 42 3)) 35 4 (mm_I M 42 4)) 35 5 (mm_I M 42 5)) 35 6 (mm_I M 42 6)) 35 7 (mm_I M 42 7)) 35 8 (mm_I M 42 8)) 36 (va_cpy (mm_I (mm_wI (mm_wI (mm_wI (mm_wI (mm_wI (mm_wI (mm_wI (mm_wI (mm_wI M 35 0 (mm_I M 42 0)) 35 1 (mm_I M 42 1)) 35 2 (mm_I M 42 2)) 35 3 (mm_I M 42 3)) 35 4 (mm_I M 42 4)) 35 5 (mm_I M 42 5)) 35 6 (mm_I M 42 6)) 35 7 (mm_I M 42 7)) 35 8 (mm_I M 42 8)) 43) (mm_I (mm_wI (mm_wI (mm_wI (mm_wI (mm_wI (mm_wI (mm_wI (mm_wI (mm_wI M 35 0 (mm_I M 42 0)) 35 1 (mm_I M 42 1)) 35 2 (mm_I M 42 2)) 35 3 (mm_I M 42 3)) 35 4 (mm_I M 42 4)) 35 5 (mm_I M 42 5)) 35 6 (mm_I M 42 6)) 35 7 (mm_I M 42 7)) 35 8 (mm_I M 42 8)) 36) (0 : Int32).toNatClampNeg (0 : Int32).toNatClampNeg (Int32.ofNat 4).toNatClampNeg)) 37 (va_cpy (mm_I (mm_wR (mm_wI (mm_wI (mm_wI (mm_wI (mm_wI (mm_wI (mm_wI (mm_wI (mm_wI M 35 0 (mm_I M 42 0)) 35 1 (mm_I M 42 1)) 35 2 (mm_I M 42 2)) 35 3 (mm_I M 42 3)) 35 4 (mm_I M 42 4)) 35 5 (mm_I M 42 5)) 35 6 (mm_I M 42 6)) 35 7 (mm_I M 42 7)) 35 8 (mm_I M 42 8)) 36 (va_cpy (mm_I (mm_wI (mm_wI (mm_wI (mm_wI (mm_wI (mm_wI (mm_wI (mm_wI (mm_wI M 35 0 (mm_I M 42 0)) 35 1 (mm_I M 42 1)) 35 2 (mm_I M 42 2)) 35 3 (mm_I M 42 3)) 35 4 (mm_I M 42 4)) 35 5 (mm_I M 42 5)) 35 6 (mm_I M 42 6)) 35 7 (mm_I M 42 7)) 35 8 (mm_I M 42 8)) 43) (mm_I (mm_wI (mm_wI (mm_wI (mm_wI (mm_wI (mm_wI (mm_wI (mm_wI (mm_wI M 35 0 (mm_I M 42 0)) 35 1 (mm_I M 42 1)) 35 2 (mm_I M 42 2)) 35 3 (mm_I M 42 3)) 35 4 (mm_I M 42 4)) 35 5 (mm_I M 42 5)) 35 6 (mm_I M 42 6)) 35 7 (mm_I M 42 7)) 35 8 (mm_I M 42 8)) 36) (0 : Int32).toNatClampNeg (0 : Int32).toNatClampNeg (Int32.ofNat 4).toNatClampNeg)) 44) (mm_I (mm_wR (mm_wI (mm_wI (mm_wI (mm_wI (mm_wI (mm_wI (mm_wI (mm_wI (mm_wI M 35 0 (mm_I M 42 0)) 35 1 (mm_I M 42 1)) 35 2 (mm_I M 42 2)) 35 3 (mm_I M 42 3)) 35 4 (mm_I M 42 4)) 35 5 (mm_I M 42 5)) 35 6 (mm_I M 42 6)) 35 7 (mm_I M 42 7)) 35 8 (mm_I M 42 8)) 36 (va_cpy (mm_I (mm_wI (mm_wI (mm_wI (mm_wI (mm_wI (mm_wI (mm_wI (mm_wI (mm_wI M 35 0 (mm_I M 42 0)) 35 1 (mm_I M 42 1)) 35 2 (mm_I M 42 2)) 35 3 (mm_I M 42 3)) 35 4 (mm_I M 42 4)) 35 5 (mm_I M 42 5)) 35 6 (mm_I M 42 6)) 35 7 (mm_I M 42 7)) 35 8 (mm_I M 42 8)) 43) (mm_I (mm_wI (mm_wI (mm_wI (mm_wI (mm_wI (mm_wI (mm_wI (mm_wI (mm_wI M 35 0 (mm_I M 42 0)) 35 1 (mm_I M 42 1)) 35 2 (mm_I M 42 2)) 35 3 (mm_I M 42 3)) 35 4 (mm_I M 42 4)) 35 5 (mm_I M 42 5)) 35 6 (mm_I M 42 6)) 35 7 (mm_I M 42 7)) 35 8 (mm_I M 42 8)) 36) (0 : Int32).toNatClampNeg (0 : Int32).toNatClampNeg (Int32.ofNat 4).toNatClampNeg)) 37) (0 : Int32).toNatClampNeg (0 : Int32).toNatClampNeg (Int32.ofNat 4).toNatClampNeg)))) none) none) := by exact rfl
set_option maxRecDepth 40000 in
set_option maxHeartbeats 4000000 in
theorem u_X0_copyFrom_42_35 (n : Nat) (xs : Nat → Int32) (N d : Nat) (M : mmM)  : mm_E n xs N (d + 1) 3 [.ref 42, .ref 35] M =
  (cond (Nat.ble (mm_cat []) 8 && (Nat.ble 16 36 && (Nat.ble 16 43 && (!decide (Int32.ofNat 4 < 0) && (!decide ((0 : Int32) < 0) && (!decide ((0 : Int32) < 0) && (Nat.ble ((0 : Int32).toNatClampNeg + (Int32.ofNat 4).toNatClampNeg) 4 && Nat.ble ((0 : Int32).toNatClampNeg + (Int32.ofNat 4).toNatClampNeg) 4)))))))
  (cond (Nat.ble (mm_cat []) 8 && (Nat.ble 16 37 && (Nat.ble 16 44 && (!decide (Int32.ofNat 4 < 0) && (!decide ((0 : Int32) < 0) && (!decide ((0 : Int32) < 0) && (Nat.ble ((0 : Int32).toNatClampNeg + (Int32.ofNat 4).toNatClampNeg) 4 && Nat.ble ((0 : Int32).toNatClampNeg + (Int32.ofNat 4).toNatClampNeg) 4)))))))
    (some (none, (mm_wR (mm_wR (mm_wI (mm_wI (mm_wI (mm_wI (mm_wI (mm_wI (mm_wI (mm_wI (mm_wI M 42 0 (mm_I M 35 0)) 42 1 (mm_I M 35 1)) 42 2 (mm_I M 35 2)) 42 3 (mm_I M 35 3)) 42 4 (mm_I M 35 4)) 42 5 (mm_I M 35 5)) 42 6 (mm_I M 35 6)) 42 7 (mm_I M 35 7)) 42 8 (mm_I M 35 8)) 43 (va_cpy (mm_I (mm_wI (mm_wI (mm_wI (mm_wI (mm_wI (mm_wI (mm_wI (mm_wI (mm_wI M 42 0 (mm_I M 35 0)) 42 1 (mm_I M 35 1)) 42 2 (mm_I M 35 2)) 42 3 (mm_I M 35 3)) 42 4 (mm_I M 35 4)) 42 5 (mm_I M 35 5)) 42 6 (mm_I M 35 6)) 42 7 (mm_I M 35 7)) 42 8 (mm_I M 35 8)) 36) (mm_I (mm_wI (mm_wI (mm_wI (mm_wI (mm_wI (mm_wI (mm_wI (mm_wI (mm_wI M 42 0 (mm_I M 35 0)) 42 1 (mm_I M 35 1)) 42 2 (mm_I M 35 2)) 42 3 (mm_I M 35 3)) 42 4 (mm_I M 35 4)) 42 5 (mm_I M 35 5)) 42 6 (mm_I M 35 6)) 42 7 (mm_I M 35 7)) 42 8 (mm_I M 35 8)) 43) (0 : Int32).toNatClampNeg (0 : Int32).toNatClampNeg (Int32.ofNat 4).toNatClampNeg)) 44 (va_cpy (mm_I (mm_wR (mm_wI (mm_wI (mm_wI (mm_wI (mm_wI (mm_wI (mm_wI (mm_wI (mm_wI M 42 0 (mm_I M 35 0)) 42 1 (mm_I M 35 1)) 42 2 (mm_I M 35 2)) 42 3 (mm_I M 35 3)) 42 4 (mm_I M 35 4)) 42 5 (mm_I M 35 5)) 42 6 (mm_I M 35 6)) 42 7 (mm_I M 35 7)) 42 8 (mm_I M 35 8)) 43 (va_cpy (mm_I (mm_wI (mm_wI (mm_wI (mm_wI (mm_wI (mm_wI (mm_wI (mm_wI (mm_wI M 42 0 (mm_I M 35 0)) 42 1 (mm_I M 35 1)) 42 2 (mm_I M 35 2)) 42 3 (mm_I M 35 3)) 42 4 (mm_I M 35 4)) 42 5 (mm_I M 35 5)) 42 6 (mm_I M 35 6)) 42 7 (mm_I M 35 7)) 42 8 (mm_I M 35 8)) 36) (mm_I (mm_wI (mm_wI (mm_wI (mm_wI (mm_wI (mm_wI (mm_wI (mm_wI (mm_wI M 42 0 (mm_I M 35 0)) 42 1 (mm_I M 35 1)) 42 2 (mm_I M 35 2)) 42 3 (mm_I M 35 3)) 42 4 (mm_I M 35 4)) 42 5 (mm_I M 35 5)) 42 6 (mm_I M 35 6)) 42 7 (mm_I M 35 7)) 42 8 (mm_I M 35 8)) 43) (0 : Int32).toNatClampNeg (0 : Int32).toNatClampNeg (Int32.ofNat 4).toNatClampNeg)) 37) (mm_I (mm_wR (mm_wI (mm_wI (mm_wI (mm_wI (mm_wI (mm_wI (mm_wI (mm_wI (mm_wI M 42 0 (mm_I M 35 0)) 42 1 (mm_I M 35 1)) 42 2 (mm_I M 35 2)) 42 3 (mm_I M 35 3)) 42 4 (mm_I M 35 4)) 42 5 (mm_I M 35 5)) 42 6 (mm_I M 35 6)) 42 7 (mm_I M 35 7)) 42 8 (mm_I M 35 8)) 43 (va_cpy (mm_I (mm_wI (mm_wI (mm_wI (mm_wI (mm_wI (mm_wI (mm_wI (mm_wI (mm_wI M 42 0 (mm_I M 35 0)) 42 1 (mm_I M 35 1)) 42 2 (mm_I M 35 2)) 42 3 (mm_I M 35 3)) 42 4 (mm_I M 35 4)) 42 5 (mm_I M 35 5)) 42 6 (mm_I M 35 6)) 42 7 (mm_I M 35 7)) 42 8 (mm_I M 35 8)) 36) (mm_I (mm_wI (mm_wI (mm_wI (mm_wI (mm_wI (mm_wI (mm_wI (mm_wI (mm_wI M 42 0 (mm_I M 35 0)) 42 1 (mm_I M 35 1)) 42 2 (mm_I M 35 2)) 42 3 (mm_I M 35 3)) 42 4 (mm_I M 35 4)) 42 5 (mm_I M 35 5)) 42 6 (mm_I M 35 6)) 42 7 (mm_I M 35 7)) 42 8 (mm_I M 35 8)) 43) (0 : Int32).toNatClampNeg (0 : Int32).toNatClampNeg (Int32.ofNat 4).toNatClampNeg)) 44) (0 : Int32).toNatClampNeg (0 : Int32).toNatClampNeg (Int32.ofNat 4).toNatClampNeg)))) none) none) := by exact rfl
set_option maxRecDepth 40000 in
set_option maxHeartbeats 4000000 in
theorem u_X0_tiredOf_35 (n : Nat) (xs : Nat → Int32) (N d : Nat) (M : mmM) (x1 : Int32) : mm_E n xs N (d + 1) 4 [.ref 35, .int x1] M =
  (if x1 < 0 then
  some (some (.int (0 : Int32)), M)
  else
  (if (Int32.ofNat 4) ≤ x1 then
    some (some (.int (0 : Int32)), M)
    else
    (cond (mm_inb x1 4)
      (some (some (.int (mm_I M 36 x1.toNatClampNeg)), M)) none))) := by exact rfl
set_option maxRecDepth 40000 in
set_option maxHeartbeats 4000000 in
theorem u_X0_tiredOf_42 (n : Nat) (xs : Nat → Int32) (N d : Nat) (M : mmM) (x1 : Int32) : mm_E n xs N (d + 1) 4 [.ref 42, .int x1] M =
  (if x1 < 0 then
  some (some (.int (0 : Int32)), M)
  else
  (if (Int32.ofNat 4) ≤ x1 then
    some (some (.int (0 : Int32)), M)
    else
    (cond (mm_inb x1 4)
      (some (some (.int (mm_I M 43 x1.toNatClampNeg)), M)) none))) := by exact rfl
set_option maxRecDepth 40000 in
set_option maxHeartbeats 4000000 in
theorem u_X0_wristOf_35 (n : Nat) (xs : Nat → Int32) (N d : Nat) (M : mmM) (x1 : Int32) : mm_E n xs N (d + 1) 5 [.ref 35, .int x1] M =
  (if x1 < 0 then
  some (some (.int (0 : Int32)), M)
  else
  (if (Int32.ofNat 4) ≤ x1 then
    some (some (.int (0 : Int32)), M)
    else
    (cond (mm_inb x1 4)
      (some (some (.int (mm_I M 37 x1.toNatClampNeg)), M)) none))) := by exact rfl
set_option maxRecDepth 40000 in
set_option maxHeartbeats 4000000 in
theorem u_X0_wristOf_42 (n : Nat) (xs : Nat → Int32) (N d : Nat) (M : mmM) (x1 : Int32) : mm_E n xs N (d + 1) 5 [.ref 42, .int x1] M =
  (if x1 < 0 then
  some (some (.int (0 : Int32)), M)
  else
  (if (Int32.ofNat 4) ≤ x1 then
    some (some (.int (0 : Int32)), M)
    else
    (cond (mm_inb x1 4)
      (some (some (.int (mm_I M 44 x1.toNatClampNeg)), M)) none))) := by exact rfl
set_option maxRecDepth 40000 in
set_option maxHeartbeats 4000000 in
theorem u_X0_tire_35 (n : Nat) (xs : Nat → Int32) (N d : Nat) (M : mmM) (x1 : Int32) (x2 : Int32) : mm_E n xs N (d + 1) 6 [.ref 35, .int x1, .int x2] M =
  (if x1 < 0 then
  some (none, M)
  else
  (if (Int32.ofNat 4) ≤ x1 then
    some (none, M)
    else
    (cond (mm_inb x1 4)
      (cond (mm_inb x1 4 && Nat.ble 16 36)
        (some (none, (mm_wI M 36 x1.toNatClampNeg ((mm_I M 36 x1.toNatClampNeg) + x2)))) none) none))) := by exact rfl
set_option maxRecDepth 40000 in
set_option maxHeartbeats 4000000 in
theorem u_X0_tire_42 (n : Nat) (xs : Nat → Int32) (N d : Nat) (M : mmM) (x1 : Int32) (x2 : Int32) : mm_E n xs N (d + 1) 6 [.ref 42, .int x1, .int x2] M =
  (if x1 < 0 then
  some (none, M)
  else
  (if (Int32.ofNat 4) ≤ x1 then
    some (none, M)
    else
    (cond (mm_inb x1 4)
      (cond (mm_inb x1 4 && Nat.ble 16 43)
        (some (none, (mm_wI M 43 x1.toNatClampNeg ((mm_I M 43 x1.toNatClampNeg) + x2)))) none) none))) := by exact rfl
set_option maxRecDepth 40000 in
set_option maxHeartbeats 4000000 in
theorem u_X0_strengthen_35 (n : Nat) (xs : Nat → Int32) (N d : Nat) (M : mmM) (x1 : Int32) : mm_E n xs N (d + 1) 7 [.ref 35, .int x1] M =
  (if x1 < 0 then
  some (none, M)
  else
  (if (Int32.ofNat 4) ≤ x1 then
    some (none, M)
    else
    (cond (mm_inb x1 4)
      (cond (mm_inb x1 4 && Nat.ble 16 37)
        (some (none, (mm_wI M 37 x1.toNatClampNeg ((mm_I M 37 x1.toNatClampNeg) + (1 : Int32))))) none) none))) := by exact rfl
set_option maxRecDepth 40000 in
set_option maxHeartbeats 4000000 in
theorem u_X0_strengthen_42 (n : Nat) (xs : Nat → Int32) (N d : Nat) (M : mmM) (x1 : Int32) : mm_E n xs N (d + 1) 7 [.ref 42, .int x1] M =
  (if x1 < 0 then
  some (none, M)
  else
  (if (Int32.ofNat 4) ≤ x1 then
    some (none, M)
    else
    (cond (mm_inb x1 4)
      (cond (mm_inb x1 4 && Nat.ble 16 44)
        (some (none, (mm_wI M 44 x1.toNatClampNeg ((mm_I M 44 x1.toNatClampNeg) + (1 : Int32))))) none) none))) := by exact rfl
set_option maxRecDepth 40000 in
set_option maxHeartbeats 4000000 in
theorem u_X1_begin (n : Nat) (xs : Nat → Int32) (N d : Nat) (M : mmM) (x1 : Int64) : mm_E n xs N (d + 1) 9 [.ref 56, .long x1] M =
  some (none, (mm_wJ M 56 0 x1)) := by exact rfl
set_option maxRecDepth 40000 in
set_option maxHeartbeats 4000000 in
theorem u_X1_below (n : Nat) (xs : Nat → Int32) (N d : Nat) (M : mmM) (x1 : Int32) : mm_E n xs N (d + 1) 10 [.ref 56, .int x1] M =
  (if x1 ≤ 0 then
  some (some (.int (0 : Int32)), (mm_wJ M 56 0 (((mm_J M 56 0) * (6364136223846793005 : Int64)) + (1442695040888963407 : Int64))))
  else
  (if x1.toInt64 = 0 then none else
    some (some (.int (((((((mm_J M 56 0) * (6364136223846793005 : Int64)) + (1442695040888963407 : Int64)).toUInt64 >>> ((33 : Int32).toInt64.toUInt64 &&& Int64.toUInt64 63)).toInt64) - (((((mm_J M 56 0) * (6364136223846793005 : Int64)) + (1442695040888963407 : Int64)).toUInt64 >>> ((33 : Int32).toInt64.toUInt64 &&& Int64.toUInt64 63)).toInt64) / x1.toInt64 * x1.toInt64).toInt32)), (mm_wJ M 56 0 (((mm_J M 56 0) * (6364136223846793005 : Int64)) + (1442695040888963407 : Int64)))))) := by exact rfl
set_option maxRecDepth 40000 in
set_option maxHeartbeats 4000000 in
theorem u_X2_read (n : Nat) (xs : Nat → Int32) (N d : Nat) (M : mmM)  : mm_E n xs N (d + 1) 12 [.ref 19] M =
  some (some (.ref 20), M) := by exact rfl
noncomputable def lp_X2_firstFault (n : Nat) (xs : Nat → Int32) (N d f t : Nat) : mmK := mm_lp (mm_Y n xs) (mm_E n xs N d) cd_X2_firstFault.1 cd_X2_firstFault.2.1 f t
set_option maxRecDepth 40000 in
set_option maxHeartbeats 4000000 in
theorem u_X2_firstFault (n : Nat) (xs : Nat → Int32) (N d : Nat) (M : mmM)  : mm_E n xs N (d + 1) 13 [.ref 19] M =
  ((mm_aV (mm_E n xs N d 84 [.ref 20] M)).bind fun p1 =>
  ((mm_aV (mm_E n xs N d 74 [.ref 17] p1)).bind fun p2 =>
  (lp_X2_firstFault n xs N d N 16 [some (.ref 19), some (.int (0 : Int32))] [] p2))) := by exact rfl
set_option maxRecDepth 40000 in
set_option maxHeartbeats 4000000 in
theorem lu_X2_firstFault_16 (n : Nat) (xs : Nat → Int32) (N d f : Nat) (M : mmM) (y1 : Int32) : lp_X2_firstFault n xs N d (f + 1) 16 [some (.ref 19), some (.int y1)] [] M =
  (if (240 : Int32) < y1 then
  ((mm_aI (mm_E n xs N d 86 [.ref 20, .int (1 : Int32)] M)).bind fun p3 =>
    (if p3.1 ≤ 0 then
    ((mm_aI (mm_E n xs N d 76 [.ref 17] p3.2)).bind fun p4 =>
      (if p4.1 = (-1 : Int32) then
      (if (0 : Int32) = 0 then
        ((mm_aI (mm_E n xs N d 75 [.ref 17] p4.2)).bind fun p5 =>
          some (some (.int p5.1), p5.2))
        else
        some (some (.int (-1 : Int32)), p4.2))
      else
      ((mm_aI (mm_E n xs N d 75 [.ref 17] p4.2)).bind fun p6 =>
        some (some (.int p6.1), p6.2))))
    else
    ((mm_aI (mm_E n xs N d 86 [.ref 20, .int (2 : Int32)] p3.2)).bind fun p7 =>
      (if p7.1 ≤ 0 then
      ((mm_aI (mm_E n xs N d 76 [.ref 17] p7.2)).bind fun p8 =>
        (if p8.1 = (-1 : Int32) then
        (if (0 : Int32) = 0 then
          ((mm_aI (mm_E n xs N d 75 [.ref 17] p8.2)).bind fun p9 =>
            some (some (.int p9.1), p9.2))
          else
          some (some (.int (-1 : Int32)), p8.2))
        else
        ((mm_aI (mm_E n xs N d 75 [.ref 17] p8.2)).bind fun p10 =>
          some (some (.int p10.1), p10.2))))
      else
      ((mm_aI (mm_E n xs N d 76 [.ref 17] p7.2)).bind fun p11 =>
        (if p11.1 = (-1 : Int32) then
        (if (1 : Int32) = 0 then
          ((mm_aI (mm_E n xs N d 75 [.ref 17] p11.2)).bind fun p12 =>
            some (some (.int p12.1), p12.2))
          else
          some (some (.int (-1 : Int32)), p11.2))
        else
        ((mm_aI (mm_E n xs N d 75 [.ref 17] p11.2)).bind fun p13 =>
          some (some (.int p13.1), p13.2))))))))
  else
  ((mm_aI (mm_E n xs N d 14 [.ref 19] M)).bind fun p14 =>
    (if p14.1 = 0 then
    ((mm_aI (mm_E n xs N d 75 [.ref 17] p14.2)).bind fun p15 =>
      some (some (.int p15.1), p15.2))
    else
    ((mm_aI (mm_E n xs N d 79 [.ref 17, .int (59 : Int32)] p14.2)).bind fun p16 =>
      (if p16.1 = 0 then
      ((mm_aI (mm_E n xs N d 86 [.ref 20, .int (1 : Int32)] p16.2)).bind fun p17 =>
        (if p17.1 ≤ 0 then
        ((mm_aI (mm_E n xs N d 76 [.ref 17] p17.2)).bind fun p18 =>
          (if p18.1 = (-1 : Int32) then
          (if (0 : Int32) = 0 then
            ((mm_aI (mm_E n xs N d 75 [.ref 17] p18.2)).bind fun p19 =>
              some (some (.int p19.1), p19.2))
            else
            some (some (.int (-1 : Int32)), p18.2))
          else
          ((mm_aI (mm_E n xs N d 75 [.ref 17] p18.2)).bind fun p20 =>
            some (some (.int p20.1), p20.2))))
        else
        ((mm_aI (mm_E n xs N d 86 [.ref 20, .int (2 : Int32)] p17.2)).bind fun p21 =>
          (if p21.1 ≤ 0 then
          ((mm_aI (mm_E n xs N d 76 [.ref 17] p21.2)).bind fun p22 =>
            (if p22.1 = (-1 : Int32) then
            (if (0 : Int32) = 0 then
              ((mm_aI (mm_E n xs N d 75 [.ref 17] p22.2)).bind fun p23 =>
                some (some (.int p23.1), p23.2))
              else
              some (some (.int (-1 : Int32)), p22.2))
            else
            ((mm_aI (mm_E n xs N d 75 [.ref 17] p22.2)).bind fun p24 =>
              some (some (.int p24.1), p24.2))))
          else
          ((mm_aI (mm_E n xs N d 76 [.ref 17] p21.2)).bind fun p25 =>
            (if p25.1 = (-1 : Int32) then
            (if (1 : Int32) = 0 then
              ((mm_aI (mm_E n xs N d 75 [.ref 17] p25.2)).bind fun p26 =>
                some (some (.int p26.1), p26.2))
              else
              some (some (.int (-1 : Int32)), p25.2))
            else
            ((mm_aI (mm_E n xs N d 75 [.ref 17] p25.2)).bind fun p27 =>
              some (some (.int p27.1), p27.2))))))))
      else
      (lp_X2_firstFault n xs N d f 16 [some (.ref 19), some (.int (y1 + (1 : Int32)))] [] p16.2)))))) := by exact rfl
noncomputable def lp_X2_isClauseNext (n : Nat) (xs : Nat → Int32) (N d f t : Nat) : mmK := mm_lp (mm_Y n xs) (mm_E n xs N d) cd_X2_isClauseNext.1 cd_X2_isClauseNext.2.1 f t
set_option maxRecDepth 40000 in
set_option maxHeartbeats 4000000 in
theorem u_X2_isClauseNext (n : Nat) (xs : Nat → Int32) (N d : Nat) (M : mmM)  : mm_E n xs N (d + 1) 14 [.ref 19] M =
  ((mm_aI (mm_E n xs N d 76 [.ref 17] M)).bind fun p1 =>
  ((mm_aI (mm_E n xs N d 88 [.int p1.1] p1.2)).bind fun p2 =>
  (if p2.1 = (-1 : Int32) then
  some (some (.int (0 : Int32)), p2.2)
  else
  ((mm_aI (mm_E n xs N d 87 [.ref 20, .int p2.1] p2.2)).bind fun p3 =>
    (if p3.1 = 0 then
    ((mm_aV (mm_E n xs N d 77 [.ref 17] p3.2)).bind fun p4 =>
      ((mm_aI (mm_E n xs N d 91 [.ref 20, .int p2.1] p4)).bind fun p5 =>
      (lp_X2_isClauseNext n xs N d N 50 [some (.ref 19), some (.int p2.1), some (.int p5.1), some (.int (0 : Int32)), some (.int (0 : Int32)), none] [] p5.2)))
    else
    some (some (.int (0 : Int32)), p3.2)))))) := by exact rfl
set_option maxRecDepth 40000 in
set_option maxHeartbeats 4000000 in
theorem lu_X2_isClauseNext_50 (n : Nat) (xs : Nat → Int32) (N d f : Nat) (M : mmM) (y1 : Int32) (y2 : Int32) (y3 : Int32) (y4 : Int32) : lp_X2_isClauseNext n xs N d (f + 1) 50 [some (.ref 19), some (.int y1), some (.int y2), some (.int y3), some (.int y4), none] [] M =
  (if (240 : Int32) < y4 then
  some (some (.int (1 : Int32)), M)
  else
  ((mm_aI (mm_E n xs N d 76 [.ref 17] M)).bind fun p6 =>
    ((mm_aI (mm_E n xs N d 89 [.int y1, .int p6.1] p6.2)).bind fun p7 =>
    (if p7.1 = (-1 : Int32) then
    some (some (.int (1 : Int32)), p7.2)
    else
    (if ((y3 >>> (p7.1 &&& 31)) &&& (1 : Int32)) = 0 then
      ((mm_aV (mm_E n xs N d 77 [.ref 17] p7.2)).bind fun p8 =>
        ((mm_aI (mm_E n xs N d 15 [.ref 19, .int y1, .int y2, .int p7.1] p8)).bind fun p9 =>
        (if p9.1 = 0 then
        some (some (.int (0 : Int32)), p9.2)
        else
        (lp_X2_isClauseNext n xs N d f 50 [some (.ref 19), some (.int y1), some (.int y2), some (.int (y3 ||| ((1 : Int32) <<< (p7.1 &&& 31)))), some (.int (y4 + (1 : Int32))), none] [] p9.2))))
      else
      some (some (.int (0 : Int32)), p7.2)))))) := by exact rfl
set_option maxRecDepth 40000 in
set_option maxHeartbeats 4000000 in
theorem u_X2_isValueNext (n : Nat) (xs : Nat → Int32) (N d : Nat) (M : mmM) (x1 : Int32) (x2 : Int32) (x3 : Int32) : mm_E n xs N (d + 1) 15 [.ref 19, .int x1, .int x2, .int x3] M =
  ((mm_aI (mm_E n xs N d 76 [.ref 17] M)).bind fun p1 =>
  ((mm_aI (mm_E n xs N d 82 [.int p1.1] p1.2)).bind fun p2 =>
  (if p2.1 = 0 then
  (if (-1 : Int32) = (-1 : Int32) then
    some (some (.int (0 : Int32)), p2.2)
    else
    ((mm_aI (mm_E n xs N d 90 [.int x1, .int x3, .int (-1 : Int32)] p2.2)).bind fun p3 =>
      (if p3.1 = 0 then
      ((mm_aV (mm_E n xs N d 78 [.ref 17] p3.2)).bind fun p4 =>
        some (some (.int (0 : Int32)), p4))
      else
      ((mm_aV (mm_E n xs N d 93 [.ref 20, .int x1, .int x2, .int x3, .int (-1 : Int32)] p3.2)).bind fun p5 =>
        some (some (.int (1 : Int32)), p5)))))
  else
  ((mm_aI (mm_E n xs N d 80 [.ref 17, .int (2 : Int32)] p2.2)).bind fun p6 =>
    (if p6.1 = (-1 : Int32) then
    some (some (.int (0 : Int32)), p6.2)
    else
    ((mm_aI (mm_E n xs N d 90 [.int x1, .int x3, .int p6.1] p6.2)).bind fun p7 =>
      (if p7.1 = 0 then
      ((mm_aV (mm_E n xs N d 78 [.ref 17] p7.2)).bind fun p8 =>
        some (some (.int (0 : Int32)), p8))
      else
      ((mm_aV (mm_E n xs N d 93 [.ref 20, .int x1, .int x2, .int x3, .int p6.1] p7.2)).bind fun p9 =>
        some (some (.int (1 : Int32)), p9))))))))) := by exact rfl
set_option maxRecDepth 40000 in
set_option maxHeartbeats 4000000 in
theorem u_X3_code (n : Nat) (xs : Nat → Int32) (N d : Nat) (M : mmM)  : mm_E n xs N (d + 1) 17 [.ref 23] M =
  ((mm_aR (mm_E n xs N d 307 [.ref 24, .int (mm_I M 23 2)] M)).bind fun p1 =>
  some (some (.ref p1.1), p1.2)) := by exact rfl
set_option maxRecDepth 40000 in
set_option maxHeartbeats 4000000 in
theorem u_X3_write (n : Nat) (xs : Nat → Int32) (N d : Nat) (M : mmM) (x1 : Int32) : mm_E n xs N (d + 1) 18 [.ref 23, .int x1] M =
  (if (mm_I M 23 2) < 0 then
  some (none, M)
  else
  (if (Int32.ofNat 240) ≤ (mm_I M 23 2) then
    some (none, M)
    else
    (cond (mm_inb (mm_I M 23 2) 240 && Nat.ble 16 24)
      (some (none, (mm_wI (mm_wI M 24 ((mm_I M 23 2).toNatClampNeg) x1) 23 2 ((mm_I M 23 2) + (1 : Int32))))) none))) := by exact rfl
noncomputable def lp_X3_firstFault (n : Nat) (xs : Nat → Int32) (N d f t : Nat) : mmK := mm_lp (mm_Y n xs) (mm_E n xs N d) cd_X3_firstFault.1 cd_X3_firstFault.2.1 f t
set_option maxRecDepth 40000 in
set_option maxHeartbeats 4000000 in
theorem u_X3_firstFault (n : Nat) (xs : Nat → Int32) (N d : Nat) (M : mmM)  : mm_E n xs N (d + 1) 19 [.ref 23] M =
  ((mm_aV (mm_E n xs N d 74 [.ref 17] (mm_wI M 23 2 (0 : Int32)))).bind fun p1 =>
  (lp_X3_firstFault n xs N d N 14 [some (.ref 23), some (.int (0 : Int32))] [] p1)) := by exact rfl
set_option maxRecDepth 40000 in
set_option maxHeartbeats 4000000 in
theorem lu_X3_firstFault_14 (n : Nat) (xs : Nat → Int32) (N d f : Nat) (M : mmM) (y1 : Int32) : lp_X3_firstFault n xs N d (f + 1) 14 [some (.ref 23), some (.int y1)] [] M =
  (if (240 : Int32) < y1 then
  ((mm_aI (mm_E n xs N d 76 [.ref 17] M)).bind fun p2 =>
    (if p2.1 = (-1 : Int32) then
    some (some (.int (-1 : Int32)), p2.2)
    else
    ((mm_aI (mm_E n xs N d 75 [.ref 17] p2.2)).bind fun p3 =>
      some (some (.int p3.1), p3.2))))
  else
  ((mm_aI (mm_E n xs N d 20 [.ref 23] M)).bind fun p4 =>
    (if p4.1 = 0 then
    ((mm_aI (mm_E n xs N d 75 [.ref 17] p4.2)).bind fun p5 =>
      some (some (.int p5.1), p5.2))
    else
    ((mm_aV (mm_E n xs N d 18 [.ref 23, .int (-59 : Int32)] p4.2)).bind fun p6 =>
      ((mm_aI (mm_E n xs N d 79 [.ref 17, .int (59 : Int32)] p6)).bind fun p7 =>
      (if p7.1 = 0 then
      ((mm_aI (mm_E n xs N d 76 [.ref 17] p7.2)).bind fun p8 =>
        (if p8.1 = (-1 : Int32) then
        some (some (.int (-1 : Int32)), p8.2)
        else
        ((mm_aI (mm_E n xs N d 75 [.ref 17] p8.2)).bind fun p9 =>
          some (some (.int p9.1), p9.2))))
      else
      (lp_X3_firstFault n xs N d f 14 [some (.ref 23), some (.int (y1 + (1 : Int32)))] [] p7.2))))))) := by exact rfl
set_option maxRecDepth 40000 in
set_option maxHeartbeats 4000000 in
theorem u_X3_isClauseNext (n : Nat) (xs : Nat → Int32) (N d : Nat) (M : mmM)  : mm_E n xs N (d + 1) 20 [.ref 23] M =
  ((mm_aI (mm_E n xs N d 79 [.ref 17, .int (121 : Int32)] M)).bind fun p1 =>
  (if p1.1 = 0 then
  some (some (.int (0 : Int32)), p1.2)
  else
  ((mm_aI (mm_E n xs N d 79 [.ref 17, .int (58 : Int32)] p1.2)).bind fun p2 =>
    (if p2.1 = 0 then
    some (some (.int (0 : Int32)), p2.2)
    else
    ((mm_aI (mm_E n xs N d 76 [.ref 17] p2.2)).bind fun p3 =>
      (if p3.1 = (33 : Int32) then
      ((mm_aI (mm_E n xs N d 22 [.ref 23, .int (0 : Int32)] p3.2)).bind fun p4 =>
        (if p4.1 = 0 then
        some (some (.int (0 : Int32)), p4.2)
        else
        ((mm_aI (mm_E n xs N d 21 [.ref 23] p4.2)).bind fun p5 =>
          (if p5.1 = 0 then
          some (some (.int (0 : Int32)), p5.2)
          else
          some (some (.int (1 : Int32)), p5.2)))))
      else
      (if p3.1 = (40 : Int32) then
        ((mm_aI (mm_E n xs N d 22 [.ref 23, .int (0 : Int32)] p3.2)).bind fun p6 =>
          (if p6.1 = 0 then
          some (some (.int (0 : Int32)), p6.2)
          else
          ((mm_aI (mm_E n xs N d 21 [.ref 23] p6.2)).bind fun p7 =>
            (if p7.1 = 0 then
            some (some (.int (0 : Int32)), p7.2)
            else
            some (some (.int (1 : Int32)), p7.2)))))
        else
        ((mm_aI (mm_E n xs N d 29 [.ref 23, .int (0 : Int32)] p3.2)).bind fun p8 =>
          (if p8.1 = 0 then
          some (some (.int (0 : Int32)), p8.2)
          else
          ((mm_aI (mm_E n xs N d 76 [.ref 17] p8.2)).bind fun p9 =>
            ((mm_aI (mm_E n xs N d 28 [.int p9.1] p9.2)).bind fun p10 =>
            (if p10.1 = 0 then
            some (some (.int (1 : Int32)), p10.2)
            else
            ((mm_aI (mm_E n xs N d 27 [.ref 23, .int (0 : Int32)] p10.2)).bind fun p11 =>
              (if p11.1 = 0 then
              some (some (.int (0 : Int32)), p11.2)
              else
              ((mm_aI (mm_E n xs N d 25 [.ref 23, .int (0 : Int32)] p11.2)).bind fun p12 =>
                (if p12.1 = 0 then
                some (some (.int (0 : Int32)), p12.2)
                else
                ((mm_aI (mm_E n xs N d 23 [.ref 23, .int (0 : Int32)] p12.2)).bind fun p13 =>
                  (if p13.1 = 0 then
                  some (some (.int (0 : Int32)), p13.2)
                  else
                  ((mm_aI (mm_E n xs N d 21 [.ref 23] p13.2)).bind fun p14 =>
                    (if p14.1 = 0 then
                    some (some (.int (0 : Int32)), p14.2)
                    else
                    some (some (.int (1 : Int32)), p14.2))))))))))))))))))))) := by exact rfl
set_option maxRecDepth 40000 in
set_option maxHeartbeats 4000000 in
theorem u_X3_isSumBehindCondition (n : Nat) (xs : Nat → Int32) (N d : Nat) (M : mmM)  : mm_E n xs N (d + 1) 21 [.ref 23] M =
  ((mm_aI (mm_E n xs N d 79 [.ref 17, .int (63 : Int32)] M)).bind fun p1 =>
  (if p1.1 = 0 then
  some (some (.int (0 : Int32)), p1.2)
  else
  ((mm_aV (mm_E n xs N d 18 [.ref 23, .int (-63 : Int32)] p1.2)).bind fun p2 =>
    ((mm_aI (mm_E n xs N d 29 [.ref 23, .int (0 : Int32)] p2)).bind fun p3 =>
    (if p3.1 = 0 then some (some (.int 0), p3.2) else if p3.1 = 1 then some (some (.int 1), p3.2) else none))))) := by exact rfl
set_option maxRecDepth 40000 in
set_option maxHeartbeats 4000000 in
theorem u_X3_isConditionNext (n : Nat) (xs : Nat → Int32) (N d : Nat) (M : mmM) (x1 : Int32) : mm_E n xs N (d + 1) 22 [.ref 23, .int x1] M =
  ((mm_aI (mm_E n xs N d 24 [.ref 23, .int x1] M)).bind fun p1 =>
  (if p1.1 = 0 then
  some (some (.int (0 : Int32)), p1.2)
  else
  ((mm_aI (mm_E n xs N d 23 [.ref 23, .int x1] p1.2)).bind fun p2 =>
    (if p2.1 = 0 then
    some (some (.int (0 : Int32)), p2.2)
    else
    some (some (.int (1 : Int32)), p2.2))))) := by exact rfl
noncomputable def lp_X3_areTruthsNext (n : Nat) (xs : Nat → Int32) (N d f t : Nat) : mmK := mm_lp (mm_Y n xs) (mm_E n xs N d) cd_X3_areTruthsNext.1 cd_X3_areTruthsNext.2.1 f t
set_option maxRecDepth 40000 in
set_option maxHeartbeats 4000000 in
theorem u_X3_areTruthsNext (n : Nat) (xs : Nat → Int32) (N d : Nat) (M : mmM) (x1 : Int32) : mm_E n xs N (d + 1) 23 [.ref 23, .int x1] M =
  (lp_X3_areTruthsNext n xs N d N 2 [some (.ref 23), some (.int x1), some (.int (0 : Int32))] [] M) := by exact rfl
set_option maxRecDepth 40000 in
set_option maxHeartbeats 4000000 in
theorem lu_X3_areTruthsNext_2 (n : Nat) (xs : Nat → Int32) (N d f : Nat) (M : mmM) (y1 : Int32) (y2 : Int32) : lp_X3_areTruthsNext n xs N d (f + 1) 2 [some (.ref 23), some (.int y1), some (.int y2)] [] M =
  (if (240 : Int32) ≤ y2 then
  some (some (.int (1 : Int32)), M)
  else
  ((mm_aI (mm_E n xs N d 79 [.ref 17, .int (124 : Int32)] M)).bind fun p1 =>
    (if p1.1 = 0 then
    some (some (.int (1 : Int32)), p1.2)
    else
    ((mm_aI (mm_E n xs N d 24 [.ref 23, .int y1] p1.2)).bind fun p2 =>
      (if p2.1 = 0 then
      some (some (.int (0 : Int32)), p2.2)
      else
      ((mm_aV (mm_E n xs N d 18 [.ref 23, .int (-124 : Int32)] p2.2)).bind fun p3 =>
        (lp_X3_areTruthsNext n xs N d f 2 [some (.ref 23), some (.int y1), some (.int (y2 + (1 : Int32)))] [] p3))))))) := by exact rfl
set_option maxRecDepth 40000 in
set_option maxHeartbeats 4000000 in
theorem u_X3_isTruthNext (n : Nat) (xs : Nat → Int32) (N d : Nat) (M : mmM) (x1 : Int32) : mm_E n xs N (d + 1) 24 [.ref 23, .int x1] M =
  ((mm_aI (mm_E n xs N d 26 [.ref 23, .int x1] M)).bind fun p1 =>
  (if p1.1 = 0 then
  some (some (.int (0 : Int32)), p1.2)
  else
  ((mm_aI (mm_E n xs N d 25 [.ref 23, .int x1] p1.2)).bind fun p2 =>
    (if p2.1 = 0 then
    some (some (.int (0 : Int32)), p2.2)
    else
    some (some (.int (1 : Int32)), p2.2))))) := by exact rfl
noncomputable def lp_X3_areUnitsNext (n : Nat) (xs : Nat → Int32) (N d f t : Nat) : mmK := mm_lp (mm_Y n xs) (mm_E n xs N d) cd_X3_areUnitsNext.1 cd_X3_areUnitsNext.2.1 f t
set_option maxRecDepth 40000 in
set_option maxHeartbeats 4000000 in
theorem u_X3_areUnitsNext (n : Nat) (xs : Nat → Int32) (N d : Nat) (M : mmM) (x1 : Int32) : mm_E n xs N (d + 1) 25 [.ref 23, .int x1] M =
  (lp_X3_areUnitsNext n xs N d N 2 [some (.ref 23), some (.int x1), some (.int (0 : Int32))] [] M) := by exact rfl
set_option maxRecDepth 40000 in
set_option maxHeartbeats 4000000 in
theorem lu_X3_areUnitsNext_2 (n : Nat) (xs : Nat → Int32) (N d f : Nat) (M : mmM) (y1 : Int32) (y2 : Int32) : lp_X3_areUnitsNext n xs N d (f + 1) 2 [some (.ref 23), some (.int y1), some (.int y2)] [] M =
  (if (240 : Int32) ≤ y2 then
  some (some (.int (1 : Int32)), M)
  else
  ((mm_aI (mm_E n xs N d 79 [.ref 17, .int (38 : Int32)] M)).bind fun p1 =>
    (if p1.1 = 0 then
    some (some (.int (1 : Int32)), p1.2)
    else
    ((mm_aI (mm_E n xs N d 26 [.ref 23, .int y1] p1.2)).bind fun p2 =>
      (if p2.1 = 0 then
      some (some (.int (0 : Int32)), p2.2)
      else
      ((mm_aV (mm_E n xs N d 18 [.ref 23, .int (-38 : Int32)] p2.2)).bind fun p3 =>
        (lp_X3_areUnitsNext n xs N d f 2 [some (.ref 23), some (.int y1), some (.int (y2 + (1 : Int32)))] [] p3))))))) := by exact rfl
set_option maxRecDepth 40000 in
set_option maxHeartbeats 4000000 in
theorem u_X3_isUnitNext (n : Nat) (xs : Nat → Int32) (N d : Nat) (M : mmM) (x1 : Int32) : mm_E n xs N (d + 1) 26 [.ref 23, .int x1] M =
  ((mm_aI (mm_E n xs N d 76 [.ref 17] M)).bind fun p1 =>
  (if p1.1 = (33 : Int32) then
  (if x1 < (6 : Int32) then
    ((mm_aV (mm_E n xs N d 77 [.ref 17] p1.2)).bind fun p2 =>
      (if p1.1 = (40 : Int32) then
      ((mm_aI (mm_E n xs N d 22 [.ref 23, .int (x1 + (1 : Int32))] p2)).bind fun p3 =>
        (if p3.1 = 0 then
        some (some (.int (0 : Int32)), p3.2)
        else
        ((mm_aI (mm_E n xs N d 79 [.ref 17, .int (41 : Int32)] p3.2)).bind fun p4 =>
          (if p4.1 = 0 then
          some (some (.int (0 : Int32)), p4.2)
          else
          some (some (.int (1 : Int32)), p4.2)))))
      else
      ((mm_aI (mm_E n xs N d 26 [.ref 23, .int (x1 + (1 : Int32))] p2)).bind fun p5 =>
        (if p5.1 = 0 then
        some (some (.int (0 : Int32)), p5.2)
        else
        ((mm_aV (mm_E n xs N d 18 [.ref 23, .int (-33 : Int32)] p5.2)).bind fun p6 =>
          some (some (.int (1 : Int32)), p6))))))
    else
    some (some (.int (0 : Int32)), p1.2))
  else
  (if p1.1 = (40 : Int32) then
    (if x1 < (6 : Int32) then
      ((mm_aV (mm_E n xs N d 77 [.ref 17] p1.2)).bind fun p7 =>
        (if p1.1 = (40 : Int32) then
        ((mm_aI (mm_E n xs N d 22 [.ref 23, .int (x1 + (1 : Int32))] p7)).bind fun p8 =>
          (if p8.1 = 0 then
          some (some (.int (0 : Int32)), p8.2)
          else
          ((mm_aI (mm_E n xs N d 79 [.ref 17, .int (41 : Int32)] p8.2)).bind fun p9 =>
            (if p9.1 = 0 then
            some (some (.int (0 : Int32)), p9.2)
            else
            some (some (.int (1 : Int32)), p9.2)))))
        else
        ((mm_aI (mm_E n xs N d 26 [.ref 23, .int (x1 + (1 : Int32))] p7)).bind fun p10 =>
          (if p10.1 = 0 then
          some (some (.int (0 : Int32)), p10.2)
          else
          ((mm_aV (mm_E n xs N d 18 [.ref 23, .int (-33 : Int32)] p10.2)).bind fun p11 =>
            some (some (.int (1 : Int32)), p11))))))
      else
      some (some (.int (0 : Int32)), p1.2))
    else
    ((mm_aI (mm_E n xs N d 29 [.ref 23, .int x1] p1.2)).bind fun p12 =>
      (if p12.1 = 0 then
      some (some (.int (0 : Int32)), p12.2)
      else
      ((mm_aI (mm_E n xs N d 27 [.ref 23, .int x1] p12.2)).bind fun p13 =>
        (if p13.1 = 0 then
        some (some (.int (0 : Int32)), p13.2)
        else
        some (some (.int (1 : Int32)), p13.2)))))))) := by exact rfl
set_option maxRecDepth 40000 in
set_option maxHeartbeats 4000000 in
theorem u_X3_isComparedNext (n : Nat) (xs : Nat → Int32) (N d : Nat) (M : mmM) (x1 : Int32) : mm_E n xs N (d + 1) 27 [.ref 23, .int x1] M =
  ((mm_aI (mm_E n xs N d 76 [.ref 17] M)).bind fun p1 =>
  ((mm_aI (mm_E n xs N d 28 [.int p1.1] p1.2)).bind fun p2 =>
  (if p2.1 = 0 then
  some (some (.int (0 : Int32)), p2.2)
  else
  ((mm_aV (mm_E n xs N d 77 [.ref 17] p2.2)).bind fun p3 =>
    ((mm_aI (mm_E n xs N d 29 [.ref 23, .int x1] p3)).bind fun p4 =>
    (if p4.1 = 0 then
    some (some (.int (0 : Int32)), p4.2)
    else
    ((mm_aV (mm_E n xs N d 18 [.ref 23, .int (-p1.1)] p4.2)).bind fun p5 =>
      some (some (.int (1 : Int32)), p5)))))))) := by exact rfl
set_option maxRecDepth 40000 in
set_option maxHeartbeats 4000000 in
theorem u_X3_isComparison (n : Nat) (xs : Nat → Int32) (N d : Nat) (M : mmM) (x1 : Int32) : mm_E n xs N (d + 1) 28 [.int x1] M =
  (if x1 = (61 : Int32) then
  some (some (.int (1 : Int32)), M)
  else
  (if x1 = (60 : Int32) then
    some (some (.int (1 : Int32)), M)
    else
    (if x1 = (62 : Int32) then
      some (some (.int (1 : Int32)), M)
      else
      some (some (.int (0 : Int32)), M)))) := by exact rfl
noncomputable def lp_X3_isSumNext (n : Nat) (xs : Nat → Int32) (N d f t : Nat) : mmK := mm_lp (mm_Y n xs) (mm_E n xs N d) cd_X3_isSumNext.1 cd_X3_isSumNext.2.1 f t
set_option maxRecDepth 40000 in
set_option maxHeartbeats 4000000 in
theorem u_X3_isSumNext (n : Nat) (xs : Nat → Int32) (N d : Nat) (M : mmM) (x1 : Int32) : mm_E n xs N (d + 1) 29 [.ref 23, .int x1] M =
  ((mm_aI (mm_E n xs N d 30 [.ref 23, .int x1] M)).bind fun p1 =>
  (if p1.1 = 0 then
  some (some (.int (0 : Int32)), p1.2)
  else
  (lp_X3_isSumNext n xs N d N 12 [some (.ref 23), some (.int x1), some (.int (0 : Int32)), none] [] p1.2))) := by exact rfl
set_option maxRecDepth 40000 in
set_option maxHeartbeats 4000000 in
theorem lu_X3_isSumNext_12 (n : Nat) (xs : Nat → Int32) (N d f : Nat) (M : mmM) (y1 : Int32) (y2 : Int32) : lp_X3_isSumNext n xs N d (f + 1) 12 [some (.ref 23), some (.int y1), some (.int y2), none] [] M =
  (if (240 : Int32) ≤ y2 then
  some (some (.int (1 : Int32)), M)
  else
  ((mm_aI (mm_E n xs N d 76 [.ref 17] M)).bind fun p2 =>
    (if p2.1 = (43 : Int32) then
    ((mm_aV (mm_E n xs N d 77 [.ref 17] p2.2)).bind fun p3 =>
      ((mm_aI (mm_E n xs N d 30 [.ref 23, .int y1] p3)).bind fun p4 =>
      (if p4.1 = 0 then
      some (some (.int (0 : Int32)), p4.2)
      else
      ((mm_aV (mm_E n xs N d 18 [.ref 23, .int (-p2.1)] p4.2)).bind fun p5 =>
        (lp_X3_isSumNext n xs N d f 12 [some (.ref 23), some (.int y1), some (.int (y2 + (1 : Int32))), none] [] p5)))))
    else
    (if p2.1 = (45 : Int32) then
      ((mm_aV (mm_E n xs N d 77 [.ref 17] p2.2)).bind fun p6 =>
        ((mm_aI (mm_E n xs N d 30 [.ref 23, .int y1] p6)).bind fun p7 =>
        (if p7.1 = 0 then
        some (some (.int (0 : Int32)), p7.2)
        else
        ((mm_aV (mm_E n xs N d 18 [.ref 23, .int (-p2.1)] p7.2)).bind fun p8 =>
          (lp_X3_isSumNext n xs N d f 12 [some (.ref 23), some (.int y1), some (.int (y2 + (1 : Int32))), none] [] p8)))))
      else
      some (some (.int (1 : Int32)), p2.2))))) := by exact rfl
noncomputable def lp_X3_isTermNext (n : Nat) (xs : Nat → Int32) (N d f t : Nat) : mmK := mm_lp (mm_Y n xs) (mm_E n xs N d) cd_X3_isTermNext.1 cd_X3_isTermNext.2.1 f t
set_option maxRecDepth 40000 in
set_option maxHeartbeats 4000000 in
theorem u_X3_isTermNext (n : Nat) (xs : Nat → Int32) (N d : Nat) (M : mmM) (x1 : Int32) : mm_E n xs N (d + 1) 30 [.ref 23, .int x1] M =
  ((mm_aI (mm_E n xs N d 31 [.ref 23, .int x1] M)).bind fun p1 =>
  (if p1.1 = 0 then
  some (some (.int (0 : Int32)), p1.2)
  else
  (lp_X3_isTermNext n xs N d N 12 [some (.ref 23), some (.int x1), some (.int (0 : Int32)), none] [] p1.2))) := by exact rfl
set_option maxRecDepth 40000 in
set_option maxHeartbeats 4000000 in
theorem lu_X3_isTermNext_12 (n : Nat) (xs : Nat → Int32) (N d f : Nat) (M : mmM) (y1 : Int32) (y2 : Int32) : lp_X3_isTermNext n xs N d (f + 1) 12 [some (.ref 23), some (.int y1), some (.int y2), none] [] M =
  (if (240 : Int32) ≤ y2 then
  some (some (.int (1 : Int32)), M)
  else
  ((mm_aI (mm_E n xs N d 76 [.ref 17] M)).bind fun p2 =>
    (if p2.1 = (42 : Int32) then
    ((mm_aV (mm_E n xs N d 77 [.ref 17] p2.2)).bind fun p3 =>
      ((mm_aI (mm_E n xs N d 31 [.ref 23, .int y1] p3)).bind fun p4 =>
      (if p4.1 = 0 then
      some (some (.int (0 : Int32)), p4.2)
      else
      ((mm_aV (mm_E n xs N d 18 [.ref 23, .int (-p2.1)] p4.2)).bind fun p5 =>
        (lp_X3_isTermNext n xs N d f 12 [some (.ref 23), some (.int y1), some (.int (y2 + (1 : Int32))), none] [] p5)))))
    else
    (if p2.1 = (47 : Int32) then
      ((mm_aV (mm_E n xs N d 77 [.ref 17] p2.2)).bind fun p6 =>
        ((mm_aI (mm_E n xs N d 31 [.ref 23, .int y1] p6)).bind fun p7 =>
        (if p7.1 = 0 then
        some (some (.int (0 : Int32)), p7.2)
        else
        ((mm_aV (mm_E n xs N d 18 [.ref 23, .int (-p2.1)] p7.2)).bind fun p8 =>
          (lp_X3_isTermNext n xs N d f 12 [some (.ref 23), some (.int y1), some (.int (y2 + (1 : Int32))), none] [] p8)))))
      else
      some (some (.int (1 : Int32)), p2.2))))) := by exact rfl
set_option maxRecDepth 40000 in
set_option maxHeartbeats 4000000 in
theorem u_X3_isAtomNext (n : Nat) (xs : Nat → Int32) (N d : Nat) (M : mmM) (x1 : Int32) : mm_E n xs N (d + 1) 31 [.ref 23, .int x1] M =
  ((mm_aI (mm_E n xs N d 76 [.ref 17] M)).bind fun p1 =>
  ((mm_aI (mm_E n xs N d 82 [.int p1.1] p1.2)).bind fun p2 =>
  (if p2.1 = 0 then
  ((mm_aI (mm_E n xs N d 32 [.int p1.1] p2.2)).bind fun p3 =>
    (if p3.1 = 0 then
    (if p1.1 = (91 : Int32) then
      (if x1 < (6 : Int32) then
        ((mm_aV (mm_E n xs N d 77 [.ref 17] p3.2)).bind fun p4 =>
          ((mm_aI (mm_E n xs N d 29 [.ref 23, .int (x1 + (1 : Int32))] p4)).bind fun p5 =>
          (if p5.1 = 0 then
          some (some (.int (0 : Int32)), p5.2)
          else
          ((mm_aI (mm_E n xs N d 79 [.ref 17, .int (93 : Int32)] p5.2)).bind fun p6 =>
            (if p6.1 = 0 then
            some (some (.int (0 : Int32)), p6.2)
            else
            some (some (.int (1 : Int32)), p6.2))))))
        else
        some (some (.int (0 : Int32)), p3.2))
      else
      some (some (.int (0 : Int32)), p3.2))
    else
    ((mm_aV (mm_E n xs N d 77 [.ref 17] p3.2)).bind fun p7 =>
      ((mm_aV (mm_E n xs N d 18 [.ref 23, .int (-p1.1)] p7)).bind fun p8 =>
      some (some (.int (1 : Int32)), p8)))))
  else
  ((mm_aI (mm_E n xs N d 80 [.ref 17, .int (4 : Int32)] p2.2)).bind fun p9 =>
    ((mm_aV (mm_E n xs N d 18 [.ref 23, .int p9.1] p9.2)).bind fun p10 =>
    (if p9.1 = (-1 : Int32) then
    some (some (.int (0 : Int32)), p10)
    else
    some (some (.int (1 : Int32)), p10))))))) := by exact rfl
set_option maxRecDepth 40000 in
set_option maxHeartbeats 4000000 in
theorem u_X3_isLetter (n : Nat) (xs : Nat → Int32) (N d : Nat) (M : mmM) (x1 : Int32) : mm_E n xs N (d + 1) 32 [.int x1] M =
  (if x1 = (119 : Int32) then
  some (some (.int (1 : Int32)), M)
  else
  (if x1 = (115 : Int32) then
    some (some (.int (1 : Int32)), M)
    else
    (if x1 = (110 : Int32) then
      some (some (.int (1 : Int32)), M)
      else
      (if x1 = (121 : Int32) then
        some (some (.int (1 : Int32)), M)
        else
        (if x1 = (97 : Int32) then
          some (some (.int (1 : Int32)), M)
          else
          (if x1 = (99 : Int32) then
            some (some (.int (1 : Int32)), M)
            else
            some (some (.int (0 : Int32)), M))))))) := by exact rfl
set_option maxRecDepth 40000 in
set_option maxHeartbeats 4000000 in
theorem u_X4_size (n : Nat) (xs : Nat → Int32) (N d : Nat) (M : mmM)  : mm_E n xs N (d + 1) 34 [.ref 25] M =
  some (some (.int (mm_I M 25 1)), M) := by exact rfl
set_option maxRecDepth 40000 in
set_option maxHeartbeats 4000000 in
theorem u_X4_isFull (n : Nat) (xs : Nat → Int32) (N d : Nat) (M : mmM)  : mm_E n xs N (d + 1) 35 [.ref 25] M =
  (if (mm_I M 25 1) < (4 : Int32) then
  some (some (.int (0 : Int32)), M)
  else
  some (some (.int (1 : Int32)), M)) := by exact rfl
set_option maxRecDepth 40000 in
set_option maxHeartbeats 4000000 in
theorem u_X4_chosen (n : Nat) (xs : Nat → Int32) (N d : Nat) (M : mmM)  : mm_E n xs N (d + 1) 36 [.ref 25] M =
  some (some (.int (mm_I M 25 2)), M) := by exact rfl
set_option maxRecDepth 40000 in
set_option maxHeartbeats 4000000 in
theorem u_X4_add (n : Nat) (xs : Nat → Int32) (N d : Nat) (M : mmM) (x1 : Nat) : mm_E n xs N (d + 1) 37 [.ref 25, .ref x1] M =
  ((mm_aI (mm_E n xs N d 35 [.ref 25] M)).bind fun p1 =>
  (if p1.1 = 0 then
  (cond (mm_inb (mm_I p1.2 25 1) 4 && (Nat.ble 16 26 && (Nat.ble 16 x1 && mm_free (mm_Y n xs) 26 ((mm_I p1.2 25 1).toNatClampNeg)) && (match mm_arr (mm_s (mm_Y n xs) p1.2 x1) 0 with | some _ => true | none => false)))
    (some (some (.int (((mm_I p1.2 25 1) + (1 : Int32)) - (1 : Int32))), (mm_wI (mm_wP p1.2 26 ((mm_I p1.2 25 1).toNatClampNeg) (some x1)) 25 1 ((mm_I p1.2 25 1) + (1 : Int32))))) none)
  else
  some (some (.int (-1 : Int32)), p1.2))) := by exact rfl
set_option maxRecDepth 40000 in
set_option maxHeartbeats 4000000 in
theorem u_X4_choose (n : Nat) (xs : Nat → Int32) (N d : Nat) (M : mmM) (x1 : Int32) : mm_E n xs N (d + 1) 38 [.ref 25, .int x1] M =
  (if x1 < (-1 : Int32) then
  some (some (.int (0 : Int32)), M)
  else
  (if x1 < (mm_I M 25 1) then
    some (some (.int (1 : Int32)), (mm_wI M 25 2 x1))
    else
    some (some (.int (0 : Int32)), M))) := by exact rfl
noncomputable def lp_X4_worth (n : Nat) (xs : Nat → Int32) (N d f t : Nat) : mmK := mm_lp (mm_Y n xs) (mm_E n xs N d) cd_X4_worth.1 cd_X4_worth.2.1 f t
set_option maxRecDepth 40000 in
set_option maxHeartbeats 4000000 in
theorem u_X4_worth (n : Nat) (xs : Nat → Int32) (N d : Nat) (M : mmM) (x1 : Int32) (x2 : Int32) (x3 : Int32) (x4 : Int32) (x5 : Int32) (x6 : Int32) : mm_E n xs N (d + 1) 39 [.ref 25, .int x1, .int x2, .int x3, .int x4, .int x5, .int x6] M =
  (if (mm_I M 25 2) < 0 then
  (lp_X4_worth n xs N d N 79 [some (.ref 25), none, none, none, none, none, none, some (.int (0 : Int32)), some (.int (0 : Int32)), some (.int (0 : Int32)), none] [] (mm_wI (mm_wI (mm_wI (mm_wI (mm_wI (mm_wI (mm_wI M 25 5 x1) 25 6 x2) 25 7 x3) 25 8 x4) 25 9 x5) 25 10 x6) 25 4 (0 : Int32)))
  else
  (if (Int32.ofNat 4) ≤ (mm_I M 25 2) then
    (lp_X4_worth n xs N d N 79 [some (.ref 25), none, none, none, none, none, none, some (.int (0 : Int32)), some (.int (0 : Int32)), some (.int (0 : Int32)), none] [] (mm_wI (mm_wI (mm_wI (mm_wI (mm_wI (mm_wI (mm_wI M 25 5 x1) 25 6 x2) 25 7 x3) 25 8 x4) 25 9 x5) 25 10 x6) 25 4 (0 : Int32)))
    else
    (cond (mm_inb (mm_I M 25 2) 4 && Nat.ble 16 26)
      (mm_asR (mm_rv (mm_p (mm_Y n xs) (mm_wI (mm_wI (mm_wI (mm_wI (mm_wI (mm_wI (mm_wI M 25 5 x1) 25 6 x2) 25 7 x3) 25 8 x4) 25 9 x5) 25 10 x6) 25 4 (0 : Int32)) 26 ((mm_I M 25 2).toNatClampNeg))) fun o1 => (match mm_s (mm_Y n xs) (mm_wI (mm_wI (mm_wI (mm_wI (mm_wI (mm_wI (mm_wI M 25 5 x1) 25 6 x2) 25 7 x3) 25 8 x4) 25 9 x5) 25 10 x6) 25 4 (0 : Int32)) o1 with
        | .inl _ => none
        | .inr q2 => cond (Nat.ble (q2.1 + 1) 6 && (!Nat.beq q2.1 2 || Nat.blt o1 16)) (lp_X4_worth n xs N d N 79 [some (.ref 25), none, none, none, none, none, none, some (.int (0 : Int32)), some (.int (Int32.ofNat q2.2)), some (.int (0 : Int32)), none] [] (mm_wI (mm_wI (mm_wI (mm_wI (mm_wI (mm_wI (mm_wI M 25 5 x1) 25 6 x2) 25 7 x3) 25 8 x4) 25 9 x5) 25 10 x6) 25 4 (0 : Int32))) none)) none))) := by exact rfl
set_option maxRecDepth 40000 in
set_option maxHeartbeats 4000000 in
theorem lu_X4_worth_79 (n : Nat) (xs : Nat → Int32) (N d f : Nat) (M : mmM) (y7 : Int32) (y8 : Int32) (y9 : Int32) : lp_X4_worth n xs N d (f + 1) 79 [some (.ref 25), none, none, none, none, none, none, some (.int y7), some (.int y8), some (.int y9), none] [] M =
  (if y8 ≤ y9 then
  some (some (.int (0 : Int32)), M)
  else
  (cond (mm_inb (mm_I M 25 2) 4 && Nat.ble 16 26)
    (mm_asR (mm_rv (mm_p (mm_Y n xs) M 26 ((mm_I M 25 2).toNatClampNeg))) fun o3 => ((mm_arr (mm_s (mm_Y n xs) M o3) 0).bind fun n4 =>
      (cond (mm_inb y9 n4)
      (if y7 = 0 then
        (if (mm_i (mm_Y n xs) M o3 y9.toNatClampNeg) = (-59 : Int32) then
          ((mm_aI (mm_E n xs N d 41 [.ref 25] M)).bind fun p5 =>
            some (some (.int p5.1), p5.2))
          else
          (if (mm_i (mm_Y n xs) M o3 y9.toNatClampNeg) = (-63 : Int32) then
            ((mm_aI (mm_E n xs N d 41 [.ref 25] M)).bind fun p6 =>
              (if p6.1 = 0 then
              (lp_X4_worth n xs N d f 79 [some (.ref 25), none, none, none, none, none, none, some (.int (1 : Int32)), some (.int y8), some (.int (y9 + (1 : Int32))), none] [] p6.2)
              else
              (lp_X4_worth n xs N d f 79 [some (.ref 25), none, none, none, none, none, none, some (.int (0 : Int32)), some (.int y8), some (.int (y9 + (1 : Int32))), none] [] p6.2)))
            else
            (if (mm_i (mm_Y n xs) M o3 y9.toNatClampNeg) < 0 then
              ((mm_aV (mm_E n xs N d 42 [.ref 25, .int (-(mm_i (mm_Y n xs) M o3 y9.toNatClampNeg))] M)).bind fun p7 =>
                (lp_X4_worth n xs N d f 79 [some (.ref 25), none, none, none, none, none, none, some (.int y7), some (.int y8), some (.int (y9 + (1 : Int32))), none] [] p7))
              else
              ((mm_aV (mm_E n xs N d 40 [.ref 25, .long ((mm_i (mm_Y n xs) M o3 y9.toNatClampNeg).toInt64)] M)).bind fun p8 =>
                (lp_X4_worth n xs N d f 79 [some (.ref 25), none, none, none, none, none, none, some (.int y7), some (.int y8), some (.int (y9 + (1 : Int32))), none] [] p8)))))
        else
        (if (mm_i (mm_Y n xs) M o3 y9.toNatClampNeg) = (-59 : Int32) then
          (lp_X4_worth n xs N d f 79 [some (.ref 25), none, none, none, none, none, none, some (.int (0 : Int32)), some (.int y8), some (.int (y9 + (1 : Int32))), none] [] M)
          else
          (lp_X4_worth n xs N d f 79 [some (.ref 25), none, none, none, none, none, none, some (.int (1 : Int32)), some (.int y8), some (.int (y9 + (1 : Int32))), none] [] M))) none))) none)) := by exact rfl
set_option maxRecDepth 40000 in
set_option maxHeartbeats 4000000 in
theorem u_X4_push (n : Nat) (xs : Nat → Int32) (N d : Nat) (M : mmM) (x1 : Int64) : mm_E n xs N (d + 1) 40 [.ref 25, .long x1] M =
  (if (mm_I M 25 4) < 0 then
  some (none, M)
  else
  (if (Int32.ofNat 64) ≤ (mm_I M 25 4) then
    some (none, M)
    else
    ((mm_aJ (mm_E n xs N d 305 [.long (1000000 : Int64), .long x1] M)).bind fun p1 =>
      ((mm_aJ (mm_E n xs N d 303 [.long (-1000000 : Int64), .long p1.1] p1.2)).bind fun p2 =>
      (cond (mm_inb (mm_I M 25 4) 64 && Nat.ble 16 31)
      (some (none, (mm_wI (mm_wI p2.2 31 ((mm_I M 25 4).toNatClampNeg) p2.1.toInt32) 25 4 ((mm_I p2.2 25 4) + (1 : Int32))))) none))))) := by exact rfl
set_option maxRecDepth 40000 in
set_option maxHeartbeats 4000000 in
theorem u_X4_pop (n : Nat) (xs : Nat → Int32) (N d : Nat) (M : mmM)  : mm_E n xs N (d + 1) 41 [.ref 25] M =
  (if (mm_I M 25 4) ≤ 0 then
  some (some (.int (0 : Int32)), M)
  else
  (if (mm_I M 25 4) ≤ (Int32.ofNat 64) then
    (cond (mm_inb ((mm_I M 25 4) - (1 : Int32)) 64)
      (some (some (.int (mm_I M 31 (((mm_I M 25 4) - (1 : Int32)).toNatClampNeg))), (mm_wI M 25 4 ((mm_I M 25 4) - (1 : Int32))))) none)
    else
    some (some (.int (0 : Int32)), M))) := by exact rfl
set_option maxRecDepth 40000 in
set_option maxHeartbeats 4000000 in
theorem u_X4_apply (n : Nat) (xs : Nat → Int32) (N d : Nat) (M : mmM) (x1 : Int32) : mm_E n xs N (d + 1) 42 [.ref 25, .int x1] M =
  (if x1 = 33 then
  ((mm_aI (mm_E n xs N d 41 [.ref 25] M)).bind fun p1 =>
    (if p1.1 = 0 then
    ((mm_aV (mm_E n xs N d 40 [.ref 25, .long (1 : Int64)] p1.2)).bind fun p2 =>
      some (none, p2))
    else
    ((mm_aV (mm_E n xs N d 40 [.ref 25, .long (0 : Int64)] p1.2)).bind fun p3 =>
      some (none, p3))))
  else if x1 = 97 then
  ((mm_aV (mm_E n xs N d 40 [.ref 25, .long ((mm_I M 25 9).toInt64)] M)).bind fun p4 =>
    some (none, p4))
  else if x1 = 99 then
  ((mm_aV (mm_E n xs N d 40 [.ref 25, .long ((mm_I M 25 10).toInt64)] M)).bind fun p5 =>
    some (none, p5))
  else if x1 = 110 then
  ((mm_aV (mm_E n xs N d 40 [.ref 25, .long ((mm_I M 25 7).toInt64)] M)).bind fun p6 =>
    some (none, p6))
  else if x1 = 115 then
  ((mm_aV (mm_E n xs N d 40 [.ref 25, .long ((mm_I M 25 6).toInt64)] M)).bind fun p7 =>
    some (none, p7))
  else if x1 = 119 then
  ((mm_aV (mm_E n xs N d 40 [.ref 25, .long ((mm_I M 25 5).toInt64)] M)).bind fun p8 =>
    some (none, p8))
  else if x1 = 121 then
  ((mm_aV (mm_E n xs N d 40 [.ref 25, .long ((mm_I M 25 8).toInt64)] M)).bind fun p9 =>
    some (none, p9))
  else ((mm_aI (mm_E n xs N d 41 [.ref 25] M)).bind fun p10 =>
    ((mm_aI (mm_E n xs N d 41 [.ref 25] p10.2)).bind fun p11 =>
    ((mm_aJ (mm_E n xs N d 43 [.int x1, .long p11.1.toInt64, .long p10.1.toInt64] p11.2)).bind fun p12 =>
    ((mm_aV (mm_E n xs N d 40 [.ref 25, .long p12.1] p12.2)).bind fun p13 =>
    some (none, p13)))))) := by exact rfl
set_option maxRecDepth 40000 in
set_option maxHeartbeats 4000000 in
theorem u_X4_joined (n : Nat) (xs : Nat → Int32) (N d : Nat) (M : mmM) (x1 : Int32) (x2 : Int64) (x3 : Int64) : mm_E n xs N (d + 1) 43 [.int x1, .long x2, .long x3] M =
  (if x1 = 38 then
  some (some (.long (x2 &&& x3)), M)
  else if x1 = 42 then
  some (some (.long (x2 * x3)), M)
  else if x1 = 43 then
  some (some (.long (x2 + x3)), M)
  else if x1 = 45 then
  some (some (.long (x2 - x3)), M)
  else if x1 = 47 then
  (if (lg_cmp x3 (0 : Int64)) = 0 then
    some (some (.long (0 : Int64)), M)
    else
    (if x3 = 0 then none else
      some (some (.long (x2 / x3)), M)))
  else if x1 = 60 then
  (if 0 ≤ (lg_cmp x2 x3) then
    some (some (.long (0 : Int64)), M)
    else
    some (some (.long (1 : Int64)), M))
  else if x1 = 61 then
  (if (lg_cmp x2 x3) = 0 then
    some (some (.long (1 : Int64)), M)
    else
    some (some (.long (0 : Int64)), M))
  else if x1 = 62 then
  (if (lg_cmp x2 x3) ≤ 0 then
    some (some (.long (0 : Int64)), M)
    else
    some (some (.long (1 : Int64)), M))
  else if x1 = 124 then
  some (some (.long (x2 ||| x3)), M)
  else some (some (.long (0 : Int64)), M)) := by exact rfl
set_option maxRecDepth 40000 in
set_option maxHeartbeats 4000000 in
theorem u_X5_write_40 (n : Nat) (xs : Nat → Int32) (N d : Nat) (M : mmM) (x1 : Int32) (x2 : Int32) (x3 : Int32) (x4 : Int32) : mm_E n xs N (d + 1) 45 [.ref 40, .int x1, .int x2, .int x3, .int x4] M =
  ((mm_aI (mm_E n xs N d 48 [.int x1] M)).bind fun p1 =>
  (if p1.1 < 0 then
  some (none, p1.2)
  else
  (if (Int32.ofNat 300) ≤ (p1.1 + (2 : Int32)) then
    some (none, p1.2)
    else
    (cond (mm_inb p1.1 300 && Nat.ble 16 41)
      (cond (mm_inb (p1.1 + (1 : Int32)) 300 && Nat.ble 16 41)
        (cond (mm_inb (p1.1 + (2 : Int32)) 300 && Nat.ble 16 41)
          (some (none, (mm_wI (mm_wI (mm_wI p1.2 41 p1.1.toNatClampNeg x2) 41 ((p1.1 + (1 : Int32)).toNatClampNeg) x3) 41 ((p1.1 + (2 : Int32)).toNatClampNeg) x4))) none) none) none)))) := by exact rfl
set_option maxRecDepth 40000 in
set_option maxHeartbeats 4000000 in
theorem u_X5_write_45 (n : Nat) (xs : Nat → Int32) (N d : Nat) (M : mmM) (x1 : Int32) (x2 : Int32) (x3 : Int32) (x4 : Int32) : mm_E n xs N (d + 1) 45 [.ref 45, .int x1, .int x2, .int x3, .int x4] M =
  ((mm_aI (mm_E n xs N d 48 [.int x1] M)).bind fun p1 =>
  (if p1.1 < 0 then
  some (none, p1.2)
  else
  (if (Int32.ofNat 300) ≤ (p1.1 + (2 : Int32)) then
    some (none, p1.2)
    else
    (cond (mm_inb p1.1 300 && Nat.ble 16 46)
      (cond (mm_inb (p1.1 + (1 : Int32)) 300 && Nat.ble 16 46)
        (cond (mm_inb (p1.1 + (2 : Int32)) 300 && Nat.ble 16 46)
          (some (none, (mm_wI (mm_wI (mm_wI p1.2 46 p1.1.toNatClampNeg x2) 46 ((p1.1 + (1 : Int32)).toNatClampNeg) x3) 46 ((p1.1 + (2 : Int32)).toNatClampNeg) x4))) none) none) none)))) := by exact rfl
set_option maxRecDepth 40000 in
set_option maxHeartbeats 4000000 in
theorem u_X5_read_40 (n : Nat) (xs : Nat → Int32) (N d : Nat) (M : mmM) (x1 : Int32) (x2 : Int32) : mm_E n xs N (d + 1) 46 [.ref 40, .int x1, .int x2] M =
  ((mm_aI (mm_E n xs N d 48 [.int x1] M)).bind fun p1 =>
  (if (p1.1 + x2) < 0 then
  some (some (.int (-1 : Int32)), p1.2)
  else
  (if (Int32.ofNat 300) ≤ (p1.1 + x2) then
    some (some (.int (-1 : Int32)), p1.2)
    else
    (cond (mm_inb (p1.1 + x2) 300)
      (some (some (.int (mm_I p1.2 41 ((p1.1 + x2).toNatClampNeg))), p1.2)) none)))) := by exact rfl
set_option maxRecDepth 40000 in
set_option maxHeartbeats 4000000 in
theorem u_X5_read_45 (n : Nat) (xs : Nat → Int32) (N d : Nat) (M : mmM) (x1 : Int32) (x2 : Int32) : mm_E n xs N (d + 1) 46 [.ref 45, .int x1, .int x2] M =
  ((mm_aI (mm_E n xs N d 48 [.int x1] M)).bind fun p1 =>
  (if (p1.1 + x2) < 0 then
  some (some (.int (-1 : Int32)), p1.2)
  else
  (if (Int32.ofNat 300) ≤ (p1.1 + x2) then
    some (some (.int (-1 : Int32)), p1.2)
    else
    (cond (mm_inb (p1.1 + x2) 300)
      (some (some (.int (mm_I p1.2 46 ((p1.1 + x2).toNatClampNeg))), p1.2)) none)))) := by exact rfl
set_option maxRecDepth 40000 in
set_option maxHeartbeats 4000000 in
theorem u_X5_copyFrom_40_45 (n : Nat) (xs : Nat → Int32) (N d : Nat) (M : mmM)  : mm_E n xs N (d + 1) 47 [.ref 40, .ref 45] M =
  (cond (Nat.ble (mm_cat []) 8 && (Nat.ble 16 46 && (Nat.ble 16 41 && (!decide (Int32.ofNat 300 < 0) && (!decide ((0 : Int32) < 0) && (!decide ((0 : Int32) < 0) && (Nat.ble ((0 : Int32).toNatClampNeg + (Int32.ofNat 300).toNatClampNeg) 300 && Nat.ble ((0 : Int32).toNatClampNeg + (Int32.ofNat 300).toNatClampNeg) 300)))))))
  (some (none, (mm_wR M 41 (va_cpy (mm_I M 46) (mm_I M 41) (0 : Int32).toNatClampNeg (0 : Int32).toNatClampNeg (Int32.ofNat 300).toNatClampNeg)))) none) := by exact rfl
set_option maxRecDepth 40000 in
set_option maxHeartbeats 4000000 in
theorem u_X5_copyFrom_45_40 (n : Nat) (xs : Nat → Int32) (N d : Nat) (M : mmM)  : mm_E n xs N (d + 1) 47 [.ref 45, .ref 40] M =
  (cond (Nat.ble (mm_cat []) 8 && (Nat.ble 16 41 && (Nat.ble 16 46 && (!decide (Int32.ofNat 300 < 0) && (!decide ((0 : Int32) < 0) && (!decide ((0 : Int32) < 0) && (Nat.ble ((0 : Int32).toNatClampNeg + (Int32.ofNat 300).toNatClampNeg) 300 && Nat.ble ((0 : Int32).toNatClampNeg + (Int32.ofNat 300).toNatClampNeg) 300)))))))
  (some (none, (mm_wR M 46 (va_cpy (mm_I M 41) (mm_I M 46) (0 : Int32).toNatClampNeg (0 : Int32).toNatClampNeg (Int32.ofNat 300).toNatClampNeg)))) none) := by exact rfl
set_option maxRecDepth 40000 in
set_option maxHeartbeats 4000000 in
theorem u_X5_placeOf (n : Nat) (xs : Nat → Int32) (N d : Nat) (M : mmM) (x1 : Int32) : mm_E n xs N (d + 1) 48 [.int x1] M =
  ((mm_aI (mm_E n xs N d 300 [.int x1, .int (100 : Int32)] M)).bind fun p1 =>
  some (some (.int (p1.1 * (3 : Int32))), p1.2)) := by exact rfl
set_option maxRecDepth 40000 in
set_option maxHeartbeats 4000000 in
theorem u_X6_size (n : Nat) (xs : Nat → Int32) (N d : Nat) (M : mmM)  : mm_E n xs N (d + 1) 50 [.ref 38] M =
  some (some (.int (mm_I M 38 1)), M) := by exact rfl
set_option maxRecDepth 40000 in
set_option maxHeartbeats 4000000 in
theorem u_X6_clear (n : Nat) (xs : Nat → Int32) (N d : Nat) (M : mmM)  : mm_E n xs N (d + 1) 51 [.ref 38] M =
  some (none, (mm_wI M 38 1 (0 : Int32))) := by exact rfl
set_option maxRecDepth 40000 in
set_option maxHeartbeats 4000000 in
theorem u_X6_keep_35 (n : Nat) (xs : Nat → Int32) (N d : Nat) (M : mmM)  : mm_E n xs N (d + 1) 52 [.ref 38, .ref 35] M =
  (if (mm_I M 38 2) < 0 then
  some (none, M)
  else
  (if (mm_I M 38 2) < (Int32.ofNat 40) then
    (cond (mm_inb (mm_I M 38 2) 40 && Nat.ble 16 39)
      (mm_asN (mm_rv (mm_p (mm_Y n xs) M 39 ((mm_I M 38 2).toNatClampNeg))) fun r1 => match r1 with
        | none => (cond (Nat.ble 87 (mm_n M))
          (cond (mm_obj (mm_s (mm_Y n xs) (mm_new M (.inl 0) 11) (mm_n M)) 0 && Nat.ble (mm_cat [.ref (mm_n M), .int (mm_I M 38 2), .ref 39]) 8)
            ((mm_aV (mm_E n xs N d 0 [.ref (mm_n M)] (mm_new M (.inl 0) 11))).bind fun p2 =>
            (cond (mm_inb (mm_I M 38 2) 40 && (Nat.ble 16 39 && (Nat.ble 16 (mm_n M) && mm_free (mm_Y n xs) 39 ((mm_I M 38 2).toNatClampNeg)) && mm_obj (mm_s (mm_Y n xs) p2 (mm_n M)) 0))
            (cond (mm_inb (mm_I p2 38 2) 40 && Nat.ble 16 39)
              (mm_asR (mm_rv (mm_p (mm_Y n xs) (mm_wP p2 39 ((mm_I M 38 2).toNatClampNeg) (some (mm_n M))) 39 ((mm_I p2 38 2).toNatClampNeg))) fun o3 => (cond (mm_obj (mm_s (mm_Y n xs) (mm_wP p2 39 ((mm_I M 38 2).toNatClampNeg) (some (mm_n M))) o3) 0 && Nat.ble (mm_cat []) 8)
                ((mm_aV (mm_E n xs N d 3 [.ref o3, .ref 35] (mm_wP p2 39 ((mm_I M 38 2).toNatClampNeg) (some (mm_n M))))).bind fun p4 =>
                (if (40 : Int32) = 0 then none else
                ((mm_aI (mm_E n xs N d 304 [.int (40 : Int32), .int ((mm_I p4 38 1) + (1 : Int32))] (mm_wI p4 38 2 (((mm_I p4 38 2) + (1 : Int32)) - ((mm_I p4 38 2) + (1 : Int32)) / (40 : Int32) * (40 : Int32))))).bind fun p5 =>
                some (none, (mm_wI p5.2 38 1 p5.1))))) none)) none) none)) none) none)
        | some _ => (cond (mm_inb (mm_I M 38 2) 40 && Nat.ble 16 39)
          (mm_asR (mm_rv (mm_p (mm_Y n xs) M 39 ((mm_I M 38 2).toNatClampNeg))) fun o6 => (cond (mm_obj (mm_s (mm_Y n xs) M o6) 0 && Nat.ble (mm_cat []) 8)
            ((mm_aV (mm_E n xs N d 3 [.ref o6, .ref 35] M)).bind fun p7 =>
            (if (40 : Int32) = 0 then none else
            ((mm_aI (mm_E n xs N d 304 [.int (40 : Int32), .int ((mm_I p7 38 1) + (1 : Int32))] (mm_wI p7 38 2 (((mm_I p7 38 2) + (1 : Int32)) - ((mm_I p7 38 2) + (1 : Int32)) / (40 : Int32) * (40 : Int32))))).bind fun p8 =>
            some (none, (mm_wI p8.2 38 1 p8.1))))) none)) none)) none)
    else
    some (none, M))) := by exact rfl
set_option maxRecDepth 40000 in
set_option maxHeartbeats 4000000 in
theorem u_X6_takeBack_35 (n : Nat) (xs : Nat → Int32) (N d : Nat) (M : mmM)  : mm_E n xs N (d + 1) 53 [.ref 38, .ref 35] M =
  (if (40 : Int32) = 0 then none else
  (if (mm_I M 38 1) ≤ 0 then
  some (some (.int (0 : Int32)), M)
  else
  (if ((((mm_I M 38 2) + (40 : Int32)) - (1 : Int32)) - (((mm_I M 38 2) + (40 : Int32)) - (1 : Int32)) / (40 : Int32) * (40 : Int32)) < 0 then
    some (some (.int (0 : Int32)), M)
    else
    (if (Int32.ofNat 40) ≤ ((((mm_I M 38 2) + (40 : Int32)) - (1 : Int32)) - (((mm_I M 38 2) + (40 : Int32)) - (1 : Int32)) / (40 : Int32) * (40 : Int32)) then
      some (some (.int (0 : Int32)), M)
      else
      (cond (mm_inb ((((mm_I M 38 2) + (40 : Int32)) - (1 : Int32)) - (((mm_I M 38 2) + (40 : Int32)) - (1 : Int32)) / (40 : Int32) * (40 : Int32)) 40 && Nat.ble 16 39)
        (mm_asN (mm_rv (mm_p (mm_Y n xs) M 39 (((((mm_I M 38 2) + (40 : Int32)) - (1 : Int32)) - (((mm_I M 38 2) + (40 : Int32)) - (1 : Int32)) / (40 : Int32) * (40 : Int32)).toNatClampNeg))) fun r1 => match r1 with
          | none => some (some (.int (0 : Int32)), M)
          | some _ => (cond (mm_inb ((((mm_I M 38 2) + (40 : Int32)) - (1 : Int32)) - (((mm_I M 38 2) + (40 : Int32)) - (1 : Int32)) / (40 : Int32) * (40 : Int32)) 40 && Nat.ble 16 39)
            ((mm_aV (mm_E n xs N d 3 [.ref 35, mm_rv (mm_p (mm_Y n xs) M 39 (((((mm_I M 38 2) + (40 : Int32)) - (1 : Int32)) - (((mm_I M 38 2) + (40 : Int32)) - (1 : Int32)) / (40 : Int32) * (40 : Int32)).toNatClampNeg))] M)).bind fun p2 =>
              some (some (.int (1 : Int32)), (mm_wI (mm_wI p2 38 2 ((((mm_I M 38 2) + (40 : Int32)) - (1 : Int32)) - (((mm_I M 38 2) + (40 : Int32)) - (1 : Int32)) / (40 : Int32) * (40 : Int32))) 38 1 ((mm_I p2 38 1) - (1 : Int32))))) none)) none))))) := by exact rfl
noncomputable def lp_X7_bestSet (n : Nat) (xs : Nat → Int32) (N d f t : Nat) : mmK := mm_lp (mm_Y n xs) (mm_E n xs N d) cd_X7_bestSet.1 cd_X7_bestSet.2.1 f t
set_option maxRecDepth 40000 in
set_option maxHeartbeats 4000000 in
theorem u_X7_bestSet (n : Nat) (xs : Nat → Int32) (N d : Nat) (M : mmM)  : mm_E n xs N (d + 1) 55 [.ref 52] M =
  ((mm_aI (mm_E n xs N d 86 [.ref 32, .int (2 : Int32)] M)).bind fun p1 =>
  ((mm_aI (mm_E n xs N d 304 [.int (128 : Int32), .int ((1 : Int32) <<< (p1.1 &&& 31))] p1.2)).bind fun p2 =>
  (lp_X7_bestSet n xs N d N 28 [some (.ref 52), some (.int (0 : Int32)), some (.int p2.1), some (.int (1 : Int32)), none, none] [] (mm_wI p2.2 53 0 (0 : Int32))))) := by exact rfl
set_option maxRecDepth 40000 in
set_option maxHeartbeats 4000000 in
theorem lu_X7_bestSet_28 (n : Nat) (xs : Nat → Int32) (N d f : Nat) (M : mmM) (y1 : Int32) (y2 : Int32) (y3 : Int32) : lp_X7_bestSet n xs N d (f + 1) 28 [some (.ref 52), some (.int y1), some (.int y2), some (.int y3), none, none] [] M =
  (if y2 ≤ y3 then
  some (some (.int y1), M)
  else
  ((mm_aI (mm_E n xs N d 298 [.int y3] M)).bind fun p3 =>
    (cond (mm_inb (y3 &&& (y3 - (1 : Int32))) 128)
    ((mm_aI (mm_E n xs N d 94 [.ref 32, .int (2 : Int32), .int p3.1, .int (3 : Int32)] p3.2)).bind fun p4 =>
      (cond (mm_inb y3 128 && Nat.ble 16 54)
      (cond (mm_inb (y3 &&& (y3 - (1 : Int32))) 128)
        ((mm_aI (mm_E n xs N d 94 [.ref 32, .int (2 : Int32), .int p3.1, .int (1 : Int32)] (mm_wI p4.2 54 y3.toNatClampNeg ((mm_I p3.2 54 ((y3 &&& (y3 - (1 : Int32))).toNatClampNeg)) + p4.1)))).bind fun p5 =>
          (cond (mm_inb y3 128 && Nat.ble 16 55)
          ((mm_aI (mm_E n xs N d 59 [.ref 52, .int y3] (mm_wI p5.2 55 y3.toNatClampNeg ((mm_I p4.2 55 ((y3 &&& (y3 - (1 : Int32))).toNatClampNeg)) + p5.1)))).bind fun p6 =>
            (cond (mm_inb y3 128 && Nat.ble 16 53)
            (cond (mm_inb y3 128)
              (if (mm_I (mm_wI p6.2 53 y3.toNatClampNeg p6.1) 53 y3.toNatClampNeg) = (-1 : Int32) then
                (lp_X7_bestSet n xs N d f 28 [some (.ref 52), some (.int y1), some (.int y2), some (.int (y3 + (1 : Int32))), none, none] [] (mm_wI p6.2 53 y3.toNatClampNeg p6.1))
                else
                ((mm_aI (mm_E n xs N d 61 [.ref 52, .int y3, .int y1] (mm_wI p6.2 53 y3.toNatClampNeg p6.1))).bind fun p7 =>
                  (if p7.1 = 0 then
                  (lp_X7_bestSet n xs N d f 28 [some (.ref 52), some (.int y1), some (.int y2), some (.int (y3 + (1 : Int32))), none, none] [] p7.2)
                  else
                  (lp_X7_bestSet n xs N d f 28 [some (.ref 52), some (.int y3), some (.int y2), some (.int (y3 + (1 : Int32))), none, none] [] p7.2)))) none) none)) none)) none) none)) none))) := by exact rfl
set_option maxRecDepth 40000 in
set_option maxHeartbeats 4000000 in
theorem u_X7_leastRowOf (n : Nat) (xs : Nat → Int32) (N d : Nat) (M : mmM) (x1 : Int32) : mm_E n xs N (d + 1) 56 [.ref 52, .int x1] M =
  (if x1 < 0 then
  some (some (.int (-1 : Int32)), M)
  else
  (if (128 : Int32) ≤ x1 then
    some (some (.int (-1 : Int32)), M)
    else
    (cond (mm_inb x1 128)
      (some (some (.int (mm_I M 53 x1.toNatClampNeg)), M)) none))) := by exact rfl
set_option maxRecDepth 40000 in
set_option maxHeartbeats 4000000 in
theorem u_X7_valueOf (n : Nat) (xs : Nat → Int32) (N d : Nat) (M : mmM) (x1 : Int32) : mm_E n xs N (d + 1) 57 [.ref 52, .int x1] M =
  (if x1 < 0 then
  some (some (.int (0 : Int32)), M)
  else
  (if (128 : Int32) ≤ x1 then
    some (some (.int (0 : Int32)), M)
    else
    (cond (mm_inb x1 128)
      (some (some (.int (mm_I M 55 x1.toNatClampNeg)), M)) none))) := by exact rfl
set_option maxRecDepth 40000 in
set_option maxHeartbeats 4000000 in
theorem u_X7_standsBehind (n : Nat) (xs : Nat → Int32) (N d : Nat) (M : mmM) (x1 : Int32) : mm_E n xs N (d + 1) 58 [.ref 52, .int x1] M =
  (if x1 < 0 then
  some (some (.int (0 : Int32)), M)
  else
  (if (128 : Int32) ≤ x1 then
    some (some (.int (0 : Int32)), M)
    else
    (cond (mm_inb x1 128)
      ((mm_aI (mm_E n xs N d 302 [.int (0 : Int32), .int ((mm_I M 35 0) - (mm_I M 54 x1.toNatClampNeg))] M)).bind fun p1 =>
        some (some (.int p1.1), p1.2)) none))) := by exact rfl
noncomputable def lp_X7_leastRowTo (n : Nat) (xs : Nat → Int32) (N d f t : Nat) : mmK := mm_lp (mm_Y n xs) (mm_E n xs N d) cd_X7_leastRowTo.1 cd_X7_leastRowTo.2.1 f t
set_option maxRecDepth 40000 in
set_option maxHeartbeats 4000000 in
theorem u_X7_leastRowTo (n : Nat) (xs : Nat → Int32) (N d : Nat) (M : mmM) (x1 : Int32) : mm_E n xs N (d + 1) 59 [.ref 52, .int x1] M =
  (if (x1 &&& (mm_I M 35 2)) = 0 then
  (lp_X7_leastRowTo n xs N d N 18 [some (.ref 52), some (.int x1), some (.int (-1 : Int32)), some (.int (0 : Int32)), none] [] M)
  else
  some (some (.int (-1 : Int32)), M)) := by exact rfl
set_option maxRecDepth 40000 in
set_option maxHeartbeats 4000000 in
theorem lu_X7_leastRowTo_18 (n : Nat) (xs : Nat → Int32) (N d f : Nat) (M : mmM) (y1 : Int32) (y2 : Int32) (y3 : Int32) : lp_X7_leastRowTo n xs N d (f + 1) 18 [some (.ref 52), some (.int y1), some (.int y2), some (.int y3), none] [] M =
  ((mm_aI (mm_E n xs N d 86 [.ref 32, .int (2 : Int32)] M)).bind fun p1 =>
  (if p1.1 ≤ y3 then
  some (some (.int y2), p1.2)
  else
  (if ((y1 >>> (y3 &&& 31)) &&& (1 : Int32)) = 0 then
    (lp_X7_leastRowTo n xs N d f 18 [some (.ref 52), some (.int y1), some (.int y2), some (.int (y3 + (1 : Int32))), none] [] p1.2)
    else
    ((mm_aI (mm_E n xs N d 60 [.ref 52, .int y1, .int y3] p1.2)).bind fun p2 =>
      (if p2.1 = 0 then
      (lp_X7_leastRowTo n xs N d f 18 [some (.ref 52), some (.int y1), some (.int y2), some (.int (y3 + (1 : Int32))), none] [] p2.2)
      else
      ((mm_aI (mm_E n xs N d 56 [.ref 52, .int (y1 &&& (((1 : Int32) <<< (y3 &&& 31)) ^^^ (-1 : Int32)))] p2.2)).bind fun p3 =>
        (if y2 = (-1 : Int32) then
        (lp_X7_leastRowTo n xs N d f 18 [some (.ref 52), some (.int y1), some (.int (((10 : Int32) * p3.1) + y3)), some (.int (y3 + (1 : Int32))), none] [] p3.2)
        else
        ((mm_aI (mm_E n xs N d 304 [.int y2, .int (((10 : Int32) * p3.1) + y3)] p3.2)).bind fun p4 =>
          (lp_X7_leastRowTo n xs N d f 18 [some (.ref 52), some (.int y1), some (.int p4.1), some (.int (y3 + (1 : Int32))), none] [] p4.2))))))))) := by exact rfl
set_option maxRecDepth 40000 in
set_option maxHeartbeats 4000000 in
theorem u_X7_canEnd (n : Nat) (xs : Nat → Int32) (N d : Nat) (M : mmM) (x1 : Int32) (x2 : Int32) : mm_E n xs N (d + 1) 60 [.ref 52, .int x1, .int x2] M =
  ((mm_aI (mm_E n xs N d 56 [.ref 52, .int (x1 &&& (((1 : Int32) <<< (x2 &&& 31)) ^^^ (-1 : Int32)))] M)).bind fun p1 =>
  (if p1.1 = (-1 : Int32) then
  some (some (.int (0 : Int32)), p1.2)
  else
  ((mm_aI (mm_E n xs N d 58 [.ref 52, .int (x1 &&& (((1 : Int32) <<< (x2 &&& 31)) ^^^ (-1 : Int32)))] p1.2)).bind fun p2 =>
    ((mm_aI (mm_E n xs N d 94 [.ref 32, .int (2 : Int32), .int x2, .int (2 : Int32)] p2.2)).bind fun p3 =>
    (if p2.1 < p3.1 then
    some (some (.int (0 : Int32)), p3.2)
    else
    some (some (.int (1 : Int32)), p3.2)))))) := by exact rfl
set_option maxRecDepth 40000 in
set_option maxHeartbeats 4000000 in
theorem u_X7_isBetter (n : Nat) (xs : Nat → Int32) (N d : Nat) (M : mmM) (x1 : Int32) (x2 : Int32) : mm_E n xs N (d + 1) 61 [.ref 52, .int x1, .int x2] M =
  ((mm_aI (mm_E n xs N d 57 [.ref 52, .int x1] M)).bind fun p1 =>
  ((mm_aI (mm_E n xs N d 57 [.ref 52, .int x2] p1.2)).bind fun p2 =>
  (if (p1.1 - p2.1) = 0 then
  ((mm_aI (mm_E n xs N d 58 [.ref 52, .int x1] p2.2)).bind fun p3 =>
    ((mm_aI (mm_E n xs N d 58 [.ref 52, .int x2] p3.2)).bind fun p4 =>
    (if (p3.1 - p4.1) = 0 then
    ((mm_aI (mm_E n xs N d 299 [.int x1] p4.2)).bind fun p5 =>
      ((mm_aI (mm_E n xs N d 299 [.int x2] p5.2)).bind fun p6 =>
      (if (p5.1 - p6.1) = 0 then
      ((mm_aI (mm_E n xs N d 56 [.ref 52, .int x1] p6.2)).bind fun p7 =>
        ((mm_aI (mm_E n xs N d 56 [.ref 52, .int x2] p7.2)).bind fun p8 =>
        (if p8.1 ≤ p7.1 then
        some (some (.int (0 : Int32)), p8.2)
        else
        some (some (.int (1 : Int32)), p8.2))))
      else
      (if 0 ≤ (p5.1 - p6.1) then
        some (some (.int (0 : Int32)), p6.2)
        else
        some (some (.int (1 : Int32)), p6.2)))))
    else
    (if (p3.1 - p4.1) ≤ 0 then
      some (some (.int (0 : Int32)), p4.2)
      else
      some (some (.int (1 : Int32)), p4.2)))))
  else
  (if (p1.1 - p2.1) ≤ 0 then
    some (some (.int (0 : Int32)), p2.2)
    else
    some (some (.int (1 : Int32)), p2.2))))) := by exact rfl
set_option maxRecDepth 40000 in
set_option maxHeartbeats 4000000 in
theorem u_X8_size (n : Nat) (xs : Nat → Int32) (N d : Nat) (M : mmM)  : mm_E n xs N (d + 1) 63 [.ref 47] M =
  some (some (.int (mm_I M 47 4)), M) := by exact rfl
set_option maxRecDepth 40000 in
set_option maxHeartbeats 4000000 in
theorem u_X8_isFull (n : Nat) (xs : Nat → Int32) (N d : Nat) (M : mmM)  : mm_E n xs N (d + 1) 64 [.ref 47] M =
  (if (mm_I M 47 4) < (10 : Int32) then
  some (some (.int (0 : Int32)), M)
  else
  some (some (.int (1 : Int32)), M)) := by exact rfl
set_option maxRecDepth 40000 in
set_option maxHeartbeats 4000000 in
theorem u_X8_clear (n : Nat) (xs : Nat → Int32) (N d : Nat) (M : mmM)  : mm_E n xs N (d + 1) 65 [.ref 47] M =
  some (none, (mm_wI M 47 4 (0 : Int32))) := by exact rfl
set_option maxRecDepth 40000 in
set_option maxHeartbeats 4000000 in
theorem u_X8_add (n : Nat) (xs : Nat → Int32) (N d : Nat) (M : mmM) (x1 : Int32) (x2 : Int32) (x3 : Int32) (x4 : Int32) : mm_E n xs N (d + 1) 66 [.ref 47, .int x1, .int x2, .int x3, .int x4] M =
  (if (mm_I M 47 4) < 0 then
  some (none, M)
  else
  (if (mm_I M 47 4) < (10 : Int32) then
    (cond (mm_inb (mm_I M 47 4) 10 && Nat.ble 16 48)
      (cond (mm_inb (mm_I M 47 4) 10 && Nat.ble 16 49)
        (cond (mm_inb (mm_I M 47 4) 10 && Nat.ble 16 50)
          (cond (mm_inb (mm_I M 47 4) 10 && Nat.ble 16 51)
            (some (none, (mm_wI (mm_wI (mm_wI (mm_wI (mm_wI M 48 ((mm_I M 47 4).toNatClampNeg) x1) 49 ((mm_I M 47 4).toNatClampNeg) x2) 50 ((mm_I M 47 4).toNatClampNeg) x3) 51 ((mm_I M 47 4).toNatClampNeg) (vp_nar .boolean x4)) 47 4 ((mm_I M 47 4) + (1 : Int32))))) none) none) none) none)
    else
    some (none, M))) := by exact rfl
noncomputable def lp_X8_furthestOf (n : Nat) (xs : Nat → Int32) (N d f t : Nat) : mmK := mm_lp (mm_Y n xs) (mm_E n xs N d) cd_X8_furthestOf.1 cd_X8_furthestOf.2.1 f t
set_option maxRecDepth 40000 in
set_option maxHeartbeats 4000000 in
theorem u_X8_furthestOf (n : Nat) (xs : Nat → Int32) (N d : Nat) (M : mmM) (x1 : Int32) : mm_E n xs N (d + 1) 67 [.ref 47, .int x1] M =
  (lp_X8_furthestOf n xs N d N 4 [some (.ref 47), some (.int x1), some (.int (0 : Int32)), some (.int (0 : Int32))] [] M) := by exact rfl
set_option maxRecDepth 40000 in
set_option maxHeartbeats 4000000 in
theorem lu_X8_furthestOf_4 (n : Nat) (xs : Nat → Int32) (N d f : Nat) (M : mmM) (y1 : Int32) (y2 : Int32) (y3 : Int32) : lp_X8_furthestOf n xs N d (f + 1) 4 [some (.ref 47), some (.int y1), some (.int y2), some (.int y3)] [] M =
  (if (mm_I M 47 4) ≤ y3 then
  some (some (.int y2), M)
  else
  (if (10 : Int32) ≤ y3 then
    some (some (.int y2), M)
    else
    (cond (mm_inb y3 10)
      (if (mm_I M 48 y3.toNatClampNeg) = y1 then
        (cond (mm_inb y3 10)
          ((mm_aI (mm_E n xs N d 302 [.int y2, .int (mm_I M 49 y3.toNatClampNeg)] M)).bind fun p1 =>
            (lp_X8_furthestOf n xs N d f 4 [some (.ref 47), some (.int y1), some (.int p1.1), some (.int (y3 + (1 : Int32)))] [] p1.2)) none)
        else
        (lp_X8_furthestOf n xs N d f 4 [some (.ref 47), some (.int y1), some (.int y2), some (.int (y3 + (1 : Int32)))] [] M)) none))) := by exact rfl
noncomputable def lp_X8_isAgainst (n : Nat) (xs : Nat → Int32) (N d f t : Nat) : mmK := mm_lp (mm_Y n xs) (mm_E n xs N d) cd_X8_isAgainst.1 cd_X8_isAgainst.2.1 f t
set_option maxRecDepth 40000 in
set_option maxHeartbeats 4000000 in
theorem u_X8_isAgainst (n : Nat) (xs : Nat → Int32) (N d : Nat) (M : mmM) (x1 : Int32) (x2 : Int32) (x3 : Int32) : mm_E n xs N (d + 1) 68 [.ref 47, .int x1, .int x2, .int x3] M =
  (lp_X8_isAgainst n xs N d N 3 [some (.ref 47), some (.int x1), some (.int x2), some (.int x3), some (.int (0 : Int32))] [] M) := by exact rfl
set_option maxRecDepth 40000 in
set_option maxHeartbeats 4000000 in
theorem lu_X8_isAgainst_3 (n : Nat) (xs : Nat → Int32) (N d f : Nat) (M : mmM) (y1 : Int32) (y2 : Int32) (y3 : Int32) (y4 : Int32) : lp_X8_isAgainst n xs N d (f + 1) 3 [some (.ref 47), some (.int y1), some (.int y2), some (.int y3), some (.int y4)] [] M =
  (if (mm_I M 47 4) ≤ y4 then
  some (some (.int (0 : Int32)), M)
  else
  (if (10 : Int32) ≤ y4 then
    some (some (.int (0 : Int32)), M)
    else
    (cond (mm_inb y4 10)
      (if (mm_I M 48 y4.toNatClampNeg) = y1 then
        (cond (mm_inb y4 10)
          (if (mm_I M 49 y4.toNatClampNeg) = y2 then
            (cond (mm_inb y4 10)
              (if y3 < (mm_I M 50 y4.toNatClampNeg) then
                (cond (mm_inb y4 10)
                  (if (0 : Int32) = (mm_I M 51 y4.toNatClampNeg) then
                    (lp_X8_isAgainst n xs N d f 3 [some (.ref 47), some (.int y1), some (.int y2), some (.int y3), some (.int (y4 + (1 : Int32)))] [] M)
                    else
                    some (some (.int (1 : Int32)), M)) none)
                else
                (cond (mm_inb y4 10)
                  (if (1 : Int32) = (mm_I M 51 y4.toNatClampNeg) then
                    (lp_X8_isAgainst n xs N d f 3 [some (.ref 47), some (.int y1), some (.int y2), some (.int y3), some (.int (y4 + (1 : Int32)))] [] M)
                    else
                    some (some (.int (1 : Int32)), M)) none)) none)
            else
            (lp_X8_isAgainst n xs N d f 3 [some (.ref 47), some (.int y1), some (.int y2), some (.int y3), some (.int (y4 + (1 : Int32)))] [] M)) none)
        else
        (lp_X8_isAgainst n xs N d f 3 [some (.ref 47), some (.int y1), some (.int y2), some (.int y3), some (.int (y4 + (1 : Int32)))] [] M)) none))) := by exact rfl
set_option maxRecDepth 40000 in
set_option maxHeartbeats 4000000 in
theorem u_X9_size (n : Nat) (xs : Nat → Int32) (N d : Nat) (M : mmM)  : mm_E n xs N (d + 1) 70 [.ref 17] M =
  some (some (.int (mm_I M 17 1)), M) := by exact rfl
noncomputable def lp_X9_signsIn (n : Nat) (xs : Nat → Int32) (N d f t : Nat) : mmK := mm_lp (mm_Y n xs) (mm_E n xs N d) cd_X9_signsIn.1 cd_X9_signsIn.2.1 f t
set_option maxRecDepth 40000 in
set_option maxHeartbeats 4000000 in
theorem u_X9_signsIn (n : Nat) (xs : Nat → Int32) (N d : Nat) (M : mmM) (x1 : Int32) : mm_E n xs N (d + 1) 71 [.int x1] M =
  (lp_X9_signsIn n xs N d N 5 [some (.int x1), some (.int (0 : Int32)), some (.int (24 : Int32))] [] M) := by exact rfl
set_option maxRecDepth 40000 in
set_option maxHeartbeats 4000000 in
theorem lu_X9_signsIn_5 (n : Nat) (xs : Nat → Int32) (N d f : Nat) (M : mmM) (y0 : Int32) (y1 : Int32) (y2 : Int32) : lp_X9_signsIn n xs N d (f + 1) 5 [some (.int y0), some (.int y1), some (.int y2)] [] M =
  (if y2 < 0 then
  some (some (.int y1), M)
  else
  (if (((y0.toUInt32 >>> (y2.toUInt32 &&& Int32.toUInt32 31)).toInt32) &&& (255 : Int32)) = 0 then
    (lp_X9_signsIn n xs N d f 5 [some (.int y0), some (.int (y1 + (0 : Int32))), some (.int (y2 + (-8 : Int32)))] [] M)
    else
    (lp_X9_signsIn n xs N d f 5 [some (.int y0), some (.int (y1 + (1 : Int32))), some (.int (y2 + (-8 : Int32)))] [] M))) := by exact rfl
noncomputable def lp_X9_put (n : Nat) (xs : Nat → Int32) (N d f t : Nat) : mmK := mm_lp (mm_Y n xs) (mm_E n xs N d) cd_X9_put.1 cd_X9_put.2.1 f t
set_option maxRecDepth 40000 in
set_option maxHeartbeats 4000000 in
theorem u_X9_put (n : Nat) (xs : Nat → Int32) (N d : Nat) (M : mmM) (x1 : Int32) : mm_E n xs N (d + 1) 72 [.ref 17, .int x1] M =
  (lp_X9_put n xs N d N 3 [some (.ref 17), some (.int x1), some (.int (24 : Int32)), none] [] M) := by exact rfl
set_option maxRecDepth 40000 in
set_option maxHeartbeats 4000000 in
theorem lu_X9_put_3 (n : Nat) (xs : Nat → Int32) (N d f : Nat) (M : mmM) (y1 : Int32) (y2 : Int32) : lp_X9_put n xs N d (f + 1) 3 [some (.ref 17), some (.int y1), some (.int y2), none] [] M =
  (if y2 < 0 then
  some (none, M)
  else
  (if (((y1.toUInt32 >>> (y2.toUInt32 &&& Int32.toUInt32 31)).toInt32) &&& (255 : Int32)) = 0 then
    (lp_X9_put n xs N d f 3 [some (.ref 17), some (.int y1), some (.int (y2 + (-8 : Int32))), none] [] M)
    else
    (if (Int32.ofNat 240) ≤ (mm_I M 17 1) then
      (lp_X9_put n xs N d f 3 [some (.ref 17), some (.int y1), some (.int (y2 + (-8 : Int32))), none] [] M)
      else
      (cond (mm_inb (mm_I M 17 1) 240 && Nat.ble 16 18)
        (lp_X9_put n xs N d f 3 [some (.ref 17), some (.int y1), some (.int (y2 + (-8 : Int32))), none] [] (mm_wI (mm_wI M 18 ((mm_I M 17 1).toNatClampNeg) (((y1.toUInt32 >>> (y2.toUInt32 &&& Int32.toUInt32 31)).toInt32) &&& (255 : Int32))) 17 1 ((mm_I M 17 1) + (1 : Int32)))) none)))) := by exact rfl
set_option maxRecDepth 40000 in
set_option maxHeartbeats 4000000 in
theorem u_X9_cutBehind (n : Nat) (xs : Nat → Int32) (N d : Nat) (M : mmM) (x1 : Int32) : mm_E n xs N (d + 1) 73 [.ref 17, .int x1] M =
  (if x1 < 0 then
  some (some (.int (0 : Int32)), M)
  else
  (if x1 ≤ (mm_I M 17 1) then
    some (some (.int (1 : Int32)), (mm_wI M 17 1 x1))
    else
    some (some (.int (0 : Int32)), M))) := by exact rfl
set_option maxRecDepth 40000 in
set_option maxHeartbeats 4000000 in
theorem u_X9_rewind (n : Nat) (xs : Nat → Int32) (N d : Nat) (M : mmM)  : mm_E n xs N (d + 1) 74 [.ref 17] M =
  some (none, (mm_wI M 17 2 (0 : Int32))) := by exact rfl
set_option maxRecDepth 40000 in
set_option maxHeartbeats 4000000 in
theorem u_X9_at (n : Nat) (xs : Nat → Int32) (N d : Nat) (M : mmM)  : mm_E n xs N (d + 1) 75 [.ref 17] M =
  some (some (.int (mm_I M 17 2)), M) := by exact rfl
noncomputable def lp_X9_look (n : Nat) (xs : Nat → Int32) (N d f t : Nat) : mmK := mm_lp (mm_Y n xs) (mm_E n xs N d) cd_X9_look.1 cd_X9_look.2.1 f t
set_option maxRecDepth 40000 in
set_option maxHeartbeats 4000000 in
theorem u_X9_look (n : Nat) (xs : Nat → Int32) (N d : Nat) (M : mmM)  : mm_E n xs N (d + 1) 76 [.ref 17] M =
  (if (mm_I M 17 2) < 0 then
  (if (mm_I M 17 2) < 0 then
    some (some (.int (-1 : Int32)), M)
    else
    (if (mm_I M 17 1) ≤ (mm_I M 17 2) then
      some (some (.int (-1 : Int32)), M)
      else
      (if (Int32.ofNat 240) ≤ (mm_I M 17 2) then
        some (some (.int (-1 : Int32)), M)
        else
        (cond (mm_inb (mm_I M 17 2) 240)
          (some (some (.int (mm_I M 18 ((mm_I M 17 2).toNatClampNeg))), M)) none))))
  else
  (if (mm_I M 17 1) ≤ (mm_I M 17 2) then
    (if (mm_I M 17 2) < 0 then
      some (some (.int (-1 : Int32)), M)
      else
      (if (mm_I M 17 1) ≤ (mm_I M 17 2) then
        some (some (.int (-1 : Int32)), M)
        else
        (if (Int32.ofNat 240) ≤ (mm_I M 17 2) then
          some (some (.int (-1 : Int32)), M)
          else
          (cond (mm_inb (mm_I M 17 2) 240)
            (some (some (.int (mm_I M 18 ((mm_I M 17 2).toNatClampNeg))), M)) none))))
    else
    (if (Int32.ofNat 240) ≤ (mm_I M 17 2) then
      (if (mm_I M 17 2) < 0 then
        some (some (.int (-1 : Int32)), M)
        else
        (if (mm_I M 17 1) ≤ (mm_I M 17 2) then
          some (some (.int (-1 : Int32)), M)
          else
          (if (Int32.ofNat 240) ≤ (mm_I M 17 2) then
            some (some (.int (-1 : Int32)), M)
            else
            (cond (mm_inb (mm_I M 17 2) 240)
              (some (some (.int (mm_I M 18 ((mm_I M 17 2).toNatClampNeg))), M)) none))))
      else
      (cond (mm_inb (mm_I M 17 2) 240)
        (if (mm_I M 18 ((mm_I M 17 2).toNatClampNeg)) = (32 : Int32) then
          (lp_X9_look n xs N d N 0 [some (.ref 17)] [] (mm_wI M 17 2 ((mm_I M 17 2) + (1 : Int32))))
          else
          (if (mm_I M 17 2) < 0 then
            some (some (.int (-1 : Int32)), M)
            else
            (if (mm_I M 17 1) ≤ (mm_I M 17 2) then
              some (some (.int (-1 : Int32)), M)
              else
              (if (Int32.ofNat 240) ≤ (mm_I M 17 2) then
                some (some (.int (-1 : Int32)), M)
                else
                (cond (mm_inb (mm_I M 17 2) 240)
                  (some (some (.int (mm_I M 18 ((mm_I M 17 2).toNatClampNeg))), M)) none))))) none)))) := by exact rfl
set_option maxRecDepth 40000 in
set_option maxHeartbeats 4000000 in
theorem lu_X9_look_0 (n : Nat) (xs : Nat → Int32) (N d f : Nat) (M : mmM)  : lp_X9_look n xs N d (f + 1) 0 [some (.ref 17)] [] M =
  (if (mm_I M 17 2) < 0 then
  (if (mm_I M 17 2) < 0 then
    some (some (.int (-1 : Int32)), M)
    else
    (if (mm_I M 17 1) ≤ (mm_I M 17 2) then
      some (some (.int (-1 : Int32)), M)
      else
      (if (Int32.ofNat 240) ≤ (mm_I M 17 2) then
        some (some (.int (-1 : Int32)), M)
        else
        (cond (mm_inb (mm_I M 17 2) 240)
          (some (some (.int (mm_I M 18 ((mm_I M 17 2).toNatClampNeg))), M)) none))))
  else
  (if (mm_I M 17 1) ≤ (mm_I M 17 2) then
    (if (mm_I M 17 2) < 0 then
      some (some (.int (-1 : Int32)), M)
      else
      (if (mm_I M 17 1) ≤ (mm_I M 17 2) then
        some (some (.int (-1 : Int32)), M)
        else
        (if (Int32.ofNat 240) ≤ (mm_I M 17 2) then
          some (some (.int (-1 : Int32)), M)
          else
          (cond (mm_inb (mm_I M 17 2) 240)
            (some (some (.int (mm_I M 18 ((mm_I M 17 2).toNatClampNeg))), M)) none))))
    else
    (if (Int32.ofNat 240) ≤ (mm_I M 17 2) then
      (if (mm_I M 17 2) < 0 then
        some (some (.int (-1 : Int32)), M)
        else
        (if (mm_I M 17 1) ≤ (mm_I M 17 2) then
          some (some (.int (-1 : Int32)), M)
          else
          (if (Int32.ofNat 240) ≤ (mm_I M 17 2) then
            some (some (.int (-1 : Int32)), M)
            else
            (cond (mm_inb (mm_I M 17 2) 240)
              (some (some (.int (mm_I M 18 ((mm_I M 17 2).toNatClampNeg))), M)) none))))
      else
      (cond (mm_inb (mm_I M 17 2) 240)
        (if (mm_I M 18 ((mm_I M 17 2).toNatClampNeg)) = (32 : Int32) then
          (lp_X9_look n xs N d f 0 [some (.ref 17)] [] (mm_wI M 17 2 ((mm_I M 17 2) + (1 : Int32))))
          else
          (if (mm_I M 17 2) < 0 then
            some (some (.int (-1 : Int32)), M)
            else
            (if (mm_I M 17 1) ≤ (mm_I M 17 2) then
              some (some (.int (-1 : Int32)), M)
              else
              (if (Int32.ofNat 240) ≤ (mm_I M 17 2) then
                some (some (.int (-1 : Int32)), M)
                else
                (cond (mm_inb (mm_I M 17 2) 240)
                  (some (some (.int (mm_I M 18 ((mm_I M 17 2).toNatClampNeg))), M)) none))))) none)))) := by exact rfl
set_option maxRecDepth 40000 in
set_option maxHeartbeats 4000000 in
theorem u_X9_step (n : Nat) (xs : Nat → Int32) (N d : Nat) (M : mmM)  : mm_E n xs N (d + 1) 77 [.ref 17] M =
  some (none, (mm_wI M 17 2 ((mm_I M 17 2) + (1 : Int32)))) := by exact rfl
set_option maxRecDepth 40000 in
set_option maxHeartbeats 4000000 in
theorem u_X9_stepBack (n : Nat) (xs : Nat → Int32) (N d : Nat) (M : mmM)  : mm_E n xs N (d + 1) 78 [.ref 17] M =
  some (none, (mm_wI M 17 2 ((mm_I M 17 2) - (1 : Int32)))) := by exact rfl
set_option maxRecDepth 40000 in
set_option maxHeartbeats 4000000 in
theorem u_X9_take (n : Nat) (xs : Nat → Int32) (N d : Nat) (M : mmM) (x1 : Int32) : mm_E n xs N (d + 1) 79 [.ref 17, .int x1] M =
  ((mm_aI (mm_E n xs N d 76 [.ref 17] M)).bind fun p1 =>
  (if p1.1 = x1 then
  some (some (.int (1 : Int32)), (mm_wI p1.2 17 2 ((mm_I p1.2 17 2) + (1 : Int32))))
  else
  some (some (.int (0 : Int32)), p1.2))) := by exact rfl
noncomputable def lp_X9_number (n : Nat) (xs : Nat → Int32) (N d f t : Nat) : mmK := mm_lp (mm_Y n xs) (mm_E n xs N d) cd_X9_number.1 cd_X9_number.2.1 f t
set_option maxRecDepth 40000 in
set_option maxHeartbeats 4000000 in
theorem u_X9_number (n : Nat) (xs : Nat → Int32) (N d : Nat) (M : mmM) (x1 : Int32) : mm_E n xs N (d + 1) 80 [.ref 17, .int x1] M =
  (lp_X9_number n xs N d N 4 [some (.ref 17), some (.int x1), some (.int (-1 : Int32)), some (.int (0 : Int32))] [] M) := by exact rfl
set_option maxRecDepth 40000 in
set_option maxHeartbeats 4000000 in
theorem lu_X9_number_4 (n : Nat) (xs : Nat → Int32) (N d f : Nat) (M : mmM) (y1 : Int32) (y2 : Int32) (y3 : Int32) : lp_X9_number n xs N d (f + 1) 4 [some (.ref 17), some (.int y1), some (.int y2), some (.int y3)] [] M =
  (if y1 ≤ y3 then
  ((mm_aI (mm_E n xs N d 81 [.ref 17] M)).bind fun p1 =>
    (if p1.1 = 0 then
    some (some (.int y2), p1.2)
    else
    some (some (.int (-1 : Int32)), p1.2)))
  else
  ((mm_aI (mm_E n xs N d 81 [.ref 17] M)).bind fun p2 =>
    (if p2.1 = 0 then
    ((mm_aI (mm_E n xs N d 81 [.ref 17] p2.2)).bind fun p3 =>
      (if p3.1 = 0 then
      some (some (.int y2), p3.2)
      else
      some (some (.int (-1 : Int32)), p3.2)))
    else
    ((mm_aI (mm_E n xs N d 302 [.int (0 : Int32), .int y2] p2.2)).bind fun p4 =>
      (cond (mm_inb (mm_I p4.2 17 2) 240)
      (lp_X9_number n xs N d f 4 [some (.ref 17), some (.int y1), some (.int ((((10 : Int32) * p4.1) + (mm_I p4.2 18 ((mm_I p4.2 17 2).toNatClampNeg))) - (48 : Int32))), some (.int (y3 + (1 : Int32)))] [] (mm_wI p4.2 17 2 ((mm_I p4.2 17 2) + (1 : Int32)))) none))))) := by exact rfl
set_option maxRecDepth 40000 in
set_option maxHeartbeats 4000000 in
theorem u_X9_isDigitHere (n : Nat) (xs : Nat → Int32) (N d : Nat) (M : mmM)  : mm_E n xs N (d + 1) 81 [.ref 17] M =
  (if (mm_I M 17 2) < 0 then
  some (some (.int (0 : Int32)), M)
  else
  (if (mm_I M 17 1) ≤ (mm_I M 17 2) then
    some (some (.int (0 : Int32)), M)
    else
    (if (Int32.ofNat 240) ≤ (mm_I M 17 2) then
      some (some (.int (0 : Int32)), M)
      else
      (cond (mm_inb (mm_I M 17 2) 240)
        (if (mm_I M 18 ((mm_I M 17 2).toNatClampNeg)) < (48 : Int32) then
          some (some (.int (0 : Int32)), M)
          else
          (cond (mm_inb (mm_I M 17 2) 240)
            (if (57 : Int32) < (mm_I M 18 ((mm_I M 17 2).toNatClampNeg)) then
              some (some (.int (0 : Int32)), M)
              else
              some (some (.int (1 : Int32)), M)) none)) none)))) := by exact rfl
set_option maxRecDepth 40000 in
set_option maxHeartbeats 4000000 in
theorem u_X9_isDigit (n : Nat) (xs : Nat → Int32) (N d : Nat) (M : mmM) (x1 : Int32) : mm_E n xs N (d + 1) 82 [.int x1] M =
  (if x1 < (48 : Int32) then
  some (some (.int (0 : Int32)), M)
  else
  (if (57 : Int32) < x1 then
    some (some (.int (0 : Int32)), M)
    else
    some (some (.int (1 : Int32)), M))) := by exact rfl
set_option maxRecDepth 40000 in
set_option maxHeartbeats 4000000 in
theorem u_X10_clear_20 (n : Nat) (xs : Nat → Int32) (N d : Nat) (M : mmM)  : mm_E n xs N (d + 1) 84 [.ref 20] M =
  ((mm_aV (mm_E n xs N d 306 [.ref 22, .int (0 : Int32)] M)).bind fun p1 =>
  ((mm_aV (mm_E n xs N d 92 [.ref 20, .int (0 : Int32), .int (0 : Int32)] p1)).bind fun p2 =>
  some (none, p2))) := by exact rfl
set_option maxRecDepth 40000 in
set_option maxHeartbeats 4000000 in
theorem u_X10_clear_32 (n : Nat) (xs : Nat → Int32) (N d : Nat) (M : mmM)  : mm_E n xs N (d + 1) 84 [.ref 32] M =
  ((mm_aV (mm_E n xs N d 306 [.ref 34, .int (0 : Int32)] M)).bind fun p1 =>
  ((mm_aV (mm_E n xs N d 92 [.ref 32, .int (0 : Int32), .int (0 : Int32)] p1)).bind fun p2 =>
  some (none, p2))) := by exact rfl
set_option maxRecDepth 40000 in
set_option maxHeartbeats 4000000 in
theorem u_X10_copyFrom_32_20 (n : Nat) (xs : Nat → Int32) (N d : Nat) (M : mmM)  : mm_E n xs N (d + 1) 85 [.ref 32, .ref 20] M =
  (cond (Nat.ble (mm_cat []) 8 && (Nat.ble 16 21 && (Nat.ble 16 33 && (!decide ((40 : Int32) < 0) && (!decide ((0 : Int32) < 0) && (!decide ((0 : Int32) < 0) && (Nat.ble ((0 : Int32).toNatClampNeg + (40 : Int32).toNatClampNeg) 40 && Nat.ble ((0 : Int32).toNatClampNeg + (40 : Int32).toNatClampNeg) 40)))))))
  (cond (Nat.ble (mm_cat []) 8 && (Nat.ble 16 22 && (Nat.ble 16 34 && (!decide ((3 : Int32) < 0) && (!decide ((0 : Int32) < 0) && (!decide ((0 : Int32) < 0) && (Nat.ble ((0 : Int32).toNatClampNeg + (3 : Int32).toNatClampNeg) 3 && Nat.ble ((0 : Int32).toNatClampNeg + (3 : Int32).toNatClampNeg) 3)))))))
    (some (none, (mm_wR (mm_wR M 33 (va_cpy (mm_I M 21) (mm_I M 33) (0 : Int32).toNatClampNeg (0 : Int32).toNatClampNeg (40 : Int32).toNatClampNeg)) 34 (va_cpy (mm_I (mm_wR M 33 (va_cpy (mm_I M 21) (mm_I M 33) (0 : Int32).toNatClampNeg (0 : Int32).toNatClampNeg (40 : Int32).toNatClampNeg)) 22) (mm_I (mm_wR M 33 (va_cpy (mm_I M 21) (mm_I M 33) (0 : Int32).toNatClampNeg (0 : Int32).toNatClampNeg (40 : Int32).toNatClampNeg)) 34) (0 : Int32).toNatClampNeg (0 : Int32).toNatClampNeg (3 : Int32).toNatClampNeg)))) none) none) := by exact rfl
set_option maxRecDepth 40000 in
set_option maxHeartbeats 4000000 in
theorem u_X10_howMany_20 (n : Nat) (xs : Nat → Int32) (N d : Nat) (M : mmM) (x1 : Int32) : mm_E n xs N (d + 1) 86 [.ref 20, .int x1] M =
  ((mm_aI (mm_E n xs N d 95 [.int x1] M)).bind fun p1 =>
  (if p1.1 = 0 then
  some (some (.int (0 : Int32)), p1.2)
  else
  (cond (mm_inb x1 3)
    (some (some (.int (mm_I p1.2 22 x1.toNatClampNeg)), p1.2)) none))) := by exact rfl
set_option maxRecDepth 40000 in
set_option maxHeartbeats 4000000 in
theorem u_X10_howMany_32 (n : Nat) (xs : Nat → Int32) (N d : Nat) (M : mmM) (x1 : Int32) : mm_E n xs N (d + 1) 86 [.ref 32, .int x1] M =
  ((mm_aI (mm_E n xs N d 95 [.int x1] M)).bind fun p1 =>
  (if p1.1 = 0 then
  some (some (.int (0 : Int32)), p1.2)
  else
  (cond (mm_inb x1 3)
    (some (some (.int (mm_I p1.2 34 x1.toNatClampNeg)), p1.2)) none))) := by exact rfl
set_option maxRecDepth 40000 in
set_option maxHeartbeats 4000000 in
theorem u_X10_isFull_20 (n : Nat) (xs : Nat → Int32) (N d : Nat) (M : mmM) (x1 : Int32) : mm_E n xs N (d + 1) 87 [.ref 20, .int x1] M =
  ((mm_aI (mm_E n xs N d 95 [.int x1] M)).bind fun p1 =>
  (if p1.1 = 0 then
  some (some (.int (1 : Int32)), p1.2)
  else
  (cond (mm_inb x1 3)
    (cond (mm_inb x1 3)
      (if (mm_I p1.2 22 x1.toNatClampNeg) < (mm_tb 1 x1.toNatClampNeg) then
        some (some (.int (0 : Int32)), p1.2)
        else
        some (some (.int (1 : Int32)), p1.2)) none) none))) := by exact rfl
set_option maxRecDepth 40000 in
set_option maxHeartbeats 4000000 in
theorem u_X10_isFull_32 (n : Nat) (xs : Nat → Int32) (N d : Nat) (M : mmM) (x1 : Int32) : mm_E n xs N (d + 1) 87 [.ref 32, .int x1] M =
  ((mm_aI (mm_E n xs N d 95 [.int x1] M)).bind fun p1 =>
  (if p1.1 = 0 then
  some (some (.int (1 : Int32)), p1.2)
  else
  (cond (mm_inb x1 3)
    (cond (mm_inb x1 3)
      (if (mm_I p1.2 34 x1.toNatClampNeg) < (mm_tb 1 x1.toNatClampNeg) then
        some (some (.int (0 : Int32)), p1.2)
        else
        some (some (.int (1 : Int32)), p1.2)) none) none))) := by exact rfl
noncomputable def lp_X10_kindBy (n : Nat) (xs : Nat → Int32) (N d f t : Nat) : mmK := mm_lp (mm_Y n xs) (mm_E n xs N d) cd_X10_kindBy.1 cd_X10_kindBy.2.1 f t
set_option maxRecDepth 40000 in
set_option maxHeartbeats 4000000 in
theorem u_X10_kindBy (n : Nat) (xs : Nat → Int32) (N d : Nat) (M : mmM) (x1 : Int32) : mm_E n xs N (d + 1) 88 [.int x1] M =
  (lp_X10_kindBy n xs N d N 2 [some (.int x1), some (.int (0 : Int32))] [] M) := by exact rfl
set_option maxRecDepth 40000 in
set_option maxHeartbeats 4000000 in
theorem lu_X10_kindBy_2 (n : Nat) (xs : Nat → Int32) (N d f : Nat) (M : mmM) (y0 : Int32) (y1 : Int32) : lp_X10_kindBy n xs N d (f + 1) 2 [some (.int y0), some (.int y1)] [] M =
  (if (Int32.ofNat 3) ≤ y1 then
  some (some (.int (-1 : Int32)), M)
  else
  (cond (mm_inb y1 3 && Nat.blt 7 16)
    (if (mm_tb 7 y1.toNatClampNeg) = y0 then
      some (some (.int y1), M)
      else
      (lp_X10_kindBy n xs N d f 2 [some (.int y0), some (.int (y1 + (1 : Int32)))] [] M)) none)) := by exact rfl
noncomputable def lp_X10_itemBy (n : Nat) (xs : Nat → Int32) (N d f t : Nat) : mmK := mm_lp (mm_Y n xs) (mm_E n xs N d) cd_X10_itemBy.1 cd_X10_itemBy.2.1 f t
set_option maxRecDepth 40000 in
set_option maxHeartbeats 4000000 in
theorem u_X10_itemBy (n : Nat) (xs : Nat → Int32) (N d : Nat) (M : mmM) (x1 : Int32) (x2 : Int32) : mm_E n xs N (d + 1) 89 [.int x1, .int x2] M =
  ((mm_aI (mm_E n xs N d 95 [.int x1] M)).bind fun p1 =>
  (if p1.1 = 0 then
  (lp_X10_itemBy n xs N d N 19 [some (.int x1), some (.int x2), some (.int (0 : Int32)), some (.int (0 : Int32)), none] [] p1.2)
  else
  (cond (mm_inb x1 3)
    (lp_X10_itemBy n xs N d N 19 [some (.int x1), some (.int x2), some (.int (mm_tb 0 x1.toNatClampNeg)), some (.int (0 : Int32)), none] [] p1.2) none))) := by exact rfl
set_option maxRecDepth 40000 in
set_option maxHeartbeats 4000000 in
theorem lu_X10_itemBy_19 (n : Nat) (xs : Nat → Int32) (N d f : Nat) (M : mmM) (y0 : Int32) (y1 : Int32) (y2 : Int32) (y3 : Int32) : lp_X10_itemBy n xs N d (f + 1) 19 [some (.int y0), some (.int y1), some (.int y2), some (.int y3), none] [] M =
  (if y2 ≤ y3 then
  some (some (.int (-1 : Int32)), M)
  else
  ((mm_aI (mm_E n xs N d 96 [.int y0, .int y3] M)).bind fun p2 =>
    (if p2.1 = (-1 : Int32) then
    (lp_X10_itemBy n xs N d f 19 [some (.int y0), some (.int y1), some (.int y2), some (.int (y3 + (1 : Int32))), none] [] p2.2)
    else
    (cond (mm_inb p2.1 10 && Nat.blt 8 16)
      (if (mm_tb 8 p2.1.toNatClampNeg) = y1 then
        some (some (.int y3), p2.2)
        else
        (lp_X10_itemBy n xs N d f 19 [some (.int y0), some (.int y1), some (.int y2), some (.int (y3 + (1 : Int32))), none] [] p2.2)) none)))) := by exact rfl
set_option maxRecDepth 40000 in
set_option maxHeartbeats 4000000 in
theorem u_X10_isAllowed (n : Nat) (xs : Nat → Int32) (N d : Nat) (M : mmM) (x1 : Int32) (x2 : Int32) (x3 : Int32) : mm_E n xs N (d + 1) 90 [.int x1, .int x2, .int x3] M =
  ((mm_aI (mm_E n xs N d 96 [.int x1, .int x2] M)).bind fun p1 =>
  (if p1.1 = (-1 : Int32) then
  some (some (.int (0 : Int32)), p1.2)
  else
  (cond (mm_inb p1.1 10)
    (cond (mm_inb p1.1 10)
      ((mm_aI (mm_E n xs N d 176 [.int (mm_tb 3 p1.1.toNatClampNeg), .int x3, .int (mm_tb 4 p1.1.toNatClampNeg)] p1.2)).bind fun p2 =>
        (if p2.1 = 0 then
        some (some (.int (0 : Int32)), p2.2)
        else
        some (some (.int (1 : Int32)), p2.2))) none) none))) := by exact rfl
set_option maxRecDepth 40000 in
set_option maxHeartbeats 4000000 in
theorem u_X10_add_20 (n : Nat) (xs : Nat → Int32) (N d : Nat) (M : mmM) (x1 : Int32) : mm_E n xs N (d + 1) 91 [.ref 20, .int x1] M =
  ((mm_aI (mm_E n xs N d 87 [.ref 20, .int x1] M)).bind fun p1 =>
  (if p1.1 = 0 then
  (cond (mm_inb x1 3)
    (cond (mm_inb x1 3)
      (cond (mm_inb x1 3 && Nat.ble 16 22)
        ((mm_aV (mm_E n xs N d 92 [.ref 20, .int x1, .int (mm_I p1.2 22 x1.toNatClampNeg)] (mm_wI p1.2 22 x1.toNatClampNeg ((mm_I p1.2 22 x1.toNatClampNeg) + (1 : Int32))))).bind fun p2 =>
          some (some (.int (mm_I p1.2 22 x1.toNatClampNeg)), p2)) none) none) none)
  else
  some (some (.int (-1 : Int32)), p1.2))) := by exact rfl
set_option maxRecDepth 40000 in
set_option maxHeartbeats 4000000 in
theorem u_X10_add_32 (n : Nat) (xs : Nat → Int32) (N d : Nat) (M : mmM) (x1 : Int32) : mm_E n xs N (d + 1) 91 [.ref 32, .int x1] M =
  ((mm_aI (mm_E n xs N d 87 [.ref 32, .int x1] M)).bind fun p1 =>
  (if p1.1 = 0 then
  (cond (mm_inb x1 3)
    (cond (mm_inb x1 3)
      (cond (mm_inb x1 3 && Nat.ble 16 34)
        ((mm_aV (mm_E n xs N d 92 [.ref 32, .int x1, .int (mm_I p1.2 34 x1.toNatClampNeg)] (mm_wI p1.2 34 x1.toNatClampNeg ((mm_I p1.2 34 x1.toNatClampNeg) + (1 : Int32))))).bind fun p2 =>
          some (some (.int (mm_I p1.2 34 x1.toNatClampNeg)), p2)) none) none) none)
  else
  some (some (.int (-1 : Int32)), p1.2))) := by exact rfl
noncomputable def lp_X10_fillWithout (n : Nat) (xs : Nat → Int32) (N d f t : Nat) : mmK := mm_lp (mm_Y n xs) (mm_E n xs N d) cd_X10_fillWithout.1 cd_X10_fillWithout.2.1 f t
set_option maxRecDepth 40000 in
set_option maxHeartbeats 4000000 in
theorem u_X10_fillWithout_20 (n : Nat) (xs : Nat → Int32) (N d : Nat) (M : mmM) (x1 : Int32) (x2 : Int32) : mm_E n xs N (d + 1) 92 [.ref 20, .int x1, .int x2] M =
  ((mm_aI (mm_E n xs N d 95 [.int x1] M)).bind fun p1 =>
  (if p1.1 = 0 then
  (lp_X10_fillWithout n xs N d N 20 [some (.ref 20), some (.int x1), some (.int x2), some (.int (0 : Int32)), some (.int (0 : Int32)), none] [] p1.2)
  else
  (cond (mm_inb x1 3)
    (lp_X10_fillWithout n xs N d N 20 [some (.ref 20), some (.int x1), some (.int x2), some (.int (mm_tb 0 x1.toNatClampNeg)), some (.int (0 : Int32)), none] [] p1.2) none))) := by exact rfl
set_option maxRecDepth 40000 in
set_option maxHeartbeats 4000000 in
theorem lu_X10_fillWithout_20_20 (n : Nat) (xs : Nat → Int32) (N d f : Nat) (M : mmM) (y1 : Int32) (y2 : Int32) (y3 : Int32) (y4 : Int32) : lp_X10_fillWithout n xs N d (f + 1) 20 [some (.ref 20), some (.int y1), some (.int y2), some (.int y3), some (.int y4), none] [] M =
  (if y3 ≤ y4 then
  some (none, M)
  else
  ((mm_aI (mm_E n xs N d 96 [.int y1, .int y4] M)).bind fun p2 =>
    (if p2.1 = (-1 : Int32) then
    ((mm_aV (mm_E n xs N d 93 [.ref 20, .int y1, .int y2, .int y4, .int (0 : Int32)] p2.2)).bind fun p3 =>
      (lp_X10_fillWithout n xs N d f 20 [some (.ref 20), some (.int y1), some (.int y2), some (.int y3), some (.int (y4 + (1 : Int32))), none] [] p3))
    else
    (cond (mm_inb p2.1 10)
      ((mm_aV (mm_E n xs N d 93 [.ref 20, .int y1, .int y2, .int y4, .int (mm_tb 5 p2.1.toNatClampNeg)] p2.2)).bind fun p4 =>
        (lp_X10_fillWithout n xs N d f 20 [some (.ref 20), some (.int y1), some (.int y2), some (.int y3), some (.int (y4 + (1 : Int32))), none] [] p4)) none)))) := by exact rfl
set_option maxRecDepth 40000 in
set_option maxHeartbeats 4000000 in
theorem u_X10_fillWithout_32 (n : Nat) (xs : Nat → Int32) (N d : Nat) (M : mmM) (x1 : Int32) (x2 : Int32) : mm_E n xs N (d + 1) 92 [.ref 32, .int x1, .int x2] M =
  ((mm_aI (mm_E n xs N d 95 [.int x1] M)).bind fun p1 =>
  (if p1.1 = 0 then
  (lp_X10_fillWithout n xs N d N 20 [some (.ref 32), some (.int x1), some (.int x2), some (.int (0 : Int32)), some (.int (0 : Int32)), none] [] p1.2)
  else
  (cond (mm_inb x1 3)
    (lp_X10_fillWithout n xs N d N 20 [some (.ref 32), some (.int x1), some (.int x2), some (.int (mm_tb 0 x1.toNatClampNeg)), some (.int (0 : Int32)), none] [] p1.2) none))) := by exact rfl
set_option maxRecDepth 40000 in
set_option maxHeartbeats 4000000 in
theorem lu_X10_fillWithout_32_20 (n : Nat) (xs : Nat → Int32) (N d f : Nat) (M : mmM) (y1 : Int32) (y2 : Int32) (y3 : Int32) (y4 : Int32) : lp_X10_fillWithout n xs N d (f + 1) 20 [some (.ref 32), some (.int y1), some (.int y2), some (.int y3), some (.int y4), none] [] M =
  (if y3 ≤ y4 then
  some (none, M)
  else
  ((mm_aI (mm_E n xs N d 96 [.int y1, .int y4] M)).bind fun p2 =>
    (if p2.1 = (-1 : Int32) then
    ((mm_aV (mm_E n xs N d 93 [.ref 32, .int y1, .int y2, .int y4, .int (0 : Int32)] p2.2)).bind fun p3 =>
      (lp_X10_fillWithout n xs N d f 20 [some (.ref 32), some (.int y1), some (.int y2), some (.int y3), some (.int (y4 + (1 : Int32))), none] [] p3))
    else
    (cond (mm_inb p2.1 10)
      ((mm_aV (mm_E n xs N d 93 [.ref 32, .int y1, .int y2, .int y4, .int (mm_tb 5 p2.1.toNatClampNeg)] p2.2)).bind fun p4 =>
        (lp_X10_fillWithout n xs N d f 20 [some (.ref 32), some (.int y1), some (.int y2), some (.int y3), some (.int (y4 + (1 : Int32))), none] [] p4)) none)))) := by exact rfl
set_option maxRecDepth 40000 in
set_option maxHeartbeats 4000000 in
theorem u_X10_set_20 (n : Nat) (xs : Nat → Int32) (N d : Nat) (M : mmM) (x1 : Int32) (x2 : Int32) (x3 : Int32) (x4 : Int32) : mm_E n xs N (d + 1) 93 [.ref 20, .int x1, .int x2, .int x3, .int x4] M =
  ((mm_aI (mm_E n xs N d 97 [.int x1, .int x2, .int x3] M)).bind fun p1 =>
  (if p1.1 = (-1 : Int32) then
  some (none, p1.2)
  else
  (cond (mm_inb p1.1 40 && Nat.ble 16 21)
    (some (none, (mm_wI p1.2 21 p1.1.toNatClampNeg x4))) none))) := by exact rfl
set_option maxRecDepth 40000 in
set_option maxHeartbeats 4000000 in
theorem u_X10_set_32 (n : Nat) (xs : Nat → Int32) (N d : Nat) (M : mmM) (x1 : Int32) (x2 : Int32) (x3 : Int32) (x4 : Int32) : mm_E n xs N (d + 1) 93 [.ref 32, .int x1, .int x2, .int x3, .int x4] M =
  ((mm_aI (mm_E n xs N d 97 [.int x1, .int x2, .int x3] M)).bind fun p1 =>
  (if p1.1 = (-1 : Int32) then
  some (none, p1.2)
  else
  (cond (mm_inb p1.1 40 && Nat.ble 16 33)
    (some (none, (mm_wI p1.2 33 p1.1.toNatClampNeg x4))) none))) := by exact rfl
set_option maxRecDepth 40000 in
set_option maxHeartbeats 4000000 in
theorem u_X10_item_20 (n : Nat) (xs : Nat → Int32) (N d : Nat) (M : mmM) (x1 : Int32) (x2 : Int32) (x3 : Int32) : mm_E n xs N (d + 1) 94 [.ref 20, .int x1, .int x2, .int x3] M =
  ((mm_aI (mm_E n xs N d 97 [.int x1, .int x2, .int x3] M)).bind fun p1 =>
  (if p1.1 = (-1 : Int32) then
  some (some (.int (0 : Int32)), p1.2)
  else
  (cond (mm_inb p1.1 40)
    (some (some (.int (mm_I p1.2 21 p1.1.toNatClampNeg)), p1.2)) none))) := by exact rfl
set_option maxRecDepth 40000 in
set_option maxHeartbeats 4000000 in
theorem u_X10_item_32 (n : Nat) (xs : Nat → Int32) (N d : Nat) (M : mmM) (x1 : Int32) (x2 : Int32) (x3 : Int32) : mm_E n xs N (d + 1) 94 [.ref 32, .int x1, .int x2, .int x3] M =
  ((mm_aI (mm_E n xs N d 97 [.int x1, .int x2, .int x3] M)).bind fun p1 =>
  (if p1.1 = (-1 : Int32) then
  some (some (.int (0 : Int32)), p1.2)
  else
  (cond (mm_inb p1.1 40)
    (some (some (.int (mm_I p1.2 33 p1.1.toNatClampNeg)), p1.2)) none))) := by exact rfl
set_option maxRecDepth 40000 in
set_option maxHeartbeats 4000000 in
theorem u_X10_isKind (n : Nat) (xs : Nat → Int32) (N d : Nat) (M : mmM) (x1 : Int32) : mm_E n xs N (d + 1) 95 [.int x1] M =
  (if x1 < 0 then
  some (some (.int (0 : Int32)), M)
  else
  (if (2 : Int32) < x1 then
    some (some (.int (0 : Int32)), M)
    else
    some (some (.int (1 : Int32)), M))) := by exact rfl
set_option maxRecDepth 40000 in
set_option maxHeartbeats 4000000 in
theorem u_X10_lineOf (n : Nat) (xs : Nat → Int32) (N d : Nat) (M : mmM) (x1 : Int32) (x2 : Int32) : mm_E n xs N (d + 1) 96 [.int x1, .int x2] M =
  ((mm_aI (mm_E n xs N d 95 [.int x1] M)).bind fun p1 =>
  (if p1.1 = 0 then
  some (some (.int (-1 : Int32)), p1.2)
  else
  (if x2 < 0 then
    some (some (.int (-1 : Int32)), p1.2)
    else
    (cond (mm_inb x1 3)
      (if x2 < (mm_tb 0 x1.toNatClampNeg) then
        (cond (mm_inb x1 3)
          (some (some (.int ((mm_tb 2 x1.toNatClampNeg) + x2)), p1.2)) none)
        else
        some (some (.int (-1 : Int32)), p1.2)) none)))) := by exact rfl
set_option maxRecDepth 40000 in
set_option maxHeartbeats 4000000 in
theorem u_X10_placeOf (n : Nat) (xs : Nat → Int32) (N d : Nat) (M : mmM) (x1 : Int32) (x2 : Int32) (x3 : Int32) : mm_E n xs N (d + 1) 97 [.int x1, .int x2, .int x3] M =
  ((mm_aI (mm_E n xs N d 95 [.int x1] M)).bind fun p1 =>
  (if p1.1 = 0 then
  some (some (.int (-1 : Int32)), p1.2)
  else
  (if x2 < 0 then
    some (some (.int (-1 : Int32)), p1.2)
    else
    (cond (mm_inb x1 3)
      (if (mm_tb 1 x1.toNatClampNeg) ≤ x2 then
        some (some (.int (-1 : Int32)), p1.2)
        else
        (if x3 < 0 then
          some (some (.int (-1 : Int32)), p1.2)
          else
          (cond (mm_inb x1 3)
            (if x3 < (mm_tb 0 x1.toNatClampNeg) then
              (cond (mm_inb x1 3)
                (cond (mm_inb x1 3)
                  (some (some (.int (((mm_tb 6 x1.toNatClampNeg) + (x2 * (mm_tb 0 x1.toNatClampNeg))) + x3)), p1.2)) none) none)
              else
              some (some (.int (-1 : Int32)), p1.2)) none))) none)))) := by exact rfl
set_option maxRecDepth 40000 in
set_option maxHeartbeats 4000000 in
theorem u_X11_feed (n : Nat) (xs : Nat → Int32) (N d : Nat) (M : mmM) (x1 : Int32) (x2 : Int32) (x3 : Int32) (x4 : Int32) (x5 : Int32) : mm_E n xs N (d + 1) 99 [.ref 16, .int x1, .int x2, .int x3, .int x4, .int x5] M =
  ((mm_aI (mm_E n xs N d 71 [.int x1] M)).bind fun p1 =>
  ((mm_aI (mm_E n xs N d 71 [.int x2] p1.2)).bind fun p2 =>
  ((mm_aI (mm_E n xs N d 71 [.int x3] p2.2)).bind fun p3 =>
  ((mm_aI (mm_E n xs N d 71 [.int x4] p3.2)).bind fun p4 =>
  ((mm_aI (mm_E n xs N d 71 [.int x5] p4.2)).bind fun p5 =>
  ((mm_aI (mm_E n xs N d 70 [.ref 17] p5.2)).bind fun p6 =>
  (if (p6.1 + ((((p1.1 + p2.1) + p3.1) + p4.1) + p5.1)) ≤ (240 : Int32) then
  ((mm_aV (mm_E n xs N d 72 [.ref 17, .int x1] p6.2)).bind fun p7 =>
    ((mm_aV (mm_E n xs N d 72 [.ref 17, .int x2] p7)).bind fun p8 =>
    ((mm_aV (mm_E n xs N d 72 [.ref 17, .int x3] p8)).bind fun p9 =>
    ((mm_aV (mm_E n xs N d 72 [.ref 17, .int x4] p9)).bind fun p10 =>
    ((mm_aV (mm_E n xs N d 72 [.ref 17, .int x5] p10)).bind fun p11 =>
    ((mm_aI (mm_E n xs N d 70 [.ref 17] p11)).bind fun p12 =>
    some (some (.int p12.1), p12.2)))))))
  else
  some (some (.int (-1 : Int32)), p6.2)))))))) := by exact rfl
set_option maxRecDepth 40000 in
set_option maxHeartbeats 4000000 in
theorem u_X11_end (n : Nat) (xs : Nat → Int32) (N d : Nat) (M : mmM) (x1 : Int32) : mm_E n xs N (d + 1) 100 [.ref 16, .int x1] M =
  ((mm_aI (mm_E n xs N d 73 [.ref 17, .int x1] M)).bind fun p1 =>
  (if p1.1 = 0 then some (some (.int 0), p1.2) else if p1.1 = 1 then some (some (.int 1), p1.2) else none)) := by exact rfl
set_option maxRecDepth 40000 in
set_option maxHeartbeats 4000000 in
theorem u_X11_fault (n : Nat) (xs : Nat → Int32) (N d : Nat) (M : mmM) (x1 : Int32) : mm_E n xs N (d + 1) 101 [.ref 16, .int x1] M =
  (if x1 = 0 then
  ((mm_aI (mm_E n xs N d 13 [.ref 19] M)).bind fun p1 =>
    some (some (.int p1.1), p1.2))
  else
  (if x1 = (1 : Int32) then
    ((mm_aI (mm_E n xs N d 19 [.ref 23] M)).bind fun p2 =>
      some (some (.int p2.1), p2.2))
    else
    some (some (.int (-2 : Int32)), M))) := by exact rfl
set_option maxRecDepth 40000 in
set_option maxHeartbeats 4000000 in
theorem u_X11_text (n : Nat) (xs : Nat → Int32) (N d : Nat) (M : mmM) (x1 : Int32) : mm_E n xs N (d + 1) 102 [.ref 16, .int x1] M =
  (if x1 = 0 then
  ((mm_aI (mm_E n xs N d 13 [.ref 19] M)).bind fun p1 =>
    (if p1.1 = (-1 : Int32) then
    ((mm_aI (mm_E n xs N d 73 [.ref 17, .int (0 : Int32)] p1.2)).bind fun p2 =>
      ((mm_aV (mm_E n xs N d 103 [.ref 16] p2.2)).bind fun p3 =>
      ((mm_aI (mm_E n xs N d 86 [.ref 32, .int (2 : Int32)] p3)).bind fun p4 =>
      some (some (.int p4.1), p4.2))))
    else
    (if x1 = (1 : Int32) then
      ((mm_aI (mm_E n xs N d 35 [.ref 25] p1.2)).bind fun p5 =>
        (if p5.1 = 0 then
        ((mm_aI (mm_E n xs N d 19 [.ref 23] p5.2)).bind fun p6 =>
          (if p6.1 = (-1 : Int32) then
          ((mm_aI (mm_E n xs N d 73 [.ref 17, .int (0 : Int32)] p6.2)).bind fun p7 =>
            ((mm_aR (mm_E n xs N d 17 [.ref 23] p7.2)).bind fun p8 =>
            ((mm_aI (mm_E n xs N d 37 [.ref 25, .ref p8.1] p8.2)).bind fun p9 =>
            some (some (.int p9.1), p9.2))))
          else
          some (some (.int (-1 : Int32)), p6.2)))
        else
        some (some (.int (-1 : Int32)), p5.2)))
      else
      some (some (.int (-1 : Int32)), p1.2))))
  else
  (if x1 = (1 : Int32) then
    ((mm_aI (mm_E n xs N d 35 [.ref 25] M)).bind fun p10 =>
      (if p10.1 = 0 then
      ((mm_aI (mm_E n xs N d 19 [.ref 23] p10.2)).bind fun p11 =>
        (if p11.1 = (-1 : Int32) then
        ((mm_aI (mm_E n xs N d 73 [.ref 17, .int (0 : Int32)] p11.2)).bind fun p12 =>
          ((mm_aR (mm_E n xs N d 17 [.ref 23] p12.2)).bind fun p13 =>
          ((mm_aI (mm_E n xs N d 37 [.ref 25, .ref p13.1] p13.2)).bind fun p14 =>
          some (some (.int p14.1), p14.2))))
        else
        some (some (.int (-1 : Int32)), p11.2)))
      else
      some (some (.int (-1 : Int32)), p10.2)))
    else
    some (some (.int (-1 : Int32)), M))) := by exact rfl
