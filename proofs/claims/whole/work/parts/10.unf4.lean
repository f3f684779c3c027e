noncomputable def lp_X12_hours (n : Nat) (xs : Nat → Int32) (N d f t : Nat) : mmK := mm_lp (mm_Y n xs) (mm_E n xs N d) cd_X12_hours.1 cd_X12_hours.2.1 f t
set_option maxRecDepth 40000 in
set_option maxHeartbeats 4000000 in
theorem u_X12_hours (n : Nat) (xs : Nat → Int32) (N d : Nat) (M : mmM) (x1 : Int32) : mm_E n xs N (d + 1) 247 [.ref 60, .int x1] M =
  (if (mm_I M 60 26) = 0 then
  ((mm_aI (mm_E n xs N d 242 [.ref 60, .int (0 : Int32)] M)).bind fun p1 =>
    (if p1.1 = 0 then
    (lp_X12_hours n xs N d N 37 [some (.ref 60), some (.int x1), some (.int (0 : Int32))] [] p1.2)
    else
    some (some (.int (-1 : Int32)), p1.2)))
  else
  ((mm_aI (mm_E n xs N d 179 [.int x1, .int (1 : Int32), .int (20 : Int32)] M)).bind fun p2 =>
    (if p2.1 = 0 then
    ((mm_aI (mm_E n xs N d 242 [.ref 60, .int (1 : Int32)] p2.2)).bind fun p3 =>
      (if p3.1 = 0 then
      (lp_X12_hours n xs N d N 37 [some (.ref 60), some (.int x1), some (.int (0 : Int32))] [] p3.2)
      else
      some (some (.int (-1 : Int32)), p3.2)))
    else
    ((mm_aI (mm_E n xs N d 242 [.ref 60, .int (-1 : Int32)] p2.2)).bind fun p4 =>
      (if p4.1 = 0 then
      (lp_X12_hours n xs N d N 37 [some (.ref 60), some (.int x1), some (.int (0 : Int32))] [] p4.2)
      else
      some (some (.int (-1 : Int32)), p4.2)))))) := by exact rfl
set_option maxRecDepth 40000 in
set_option maxHeartbeats 4000000 in
theorem lu_X12_hours_37 (n : Nat) (xs : Nat → Int32) (N d f : Nat) (M : mmM) (y1 : Int32) (y2 : Int32) : lp_X12_hours n xs N d (f + 1) 37 [some (.ref 60), some (.int y1), some (.int y2)] [] M =
  (if y1 ≤ y2 then
  some (some (.int (mm_I M 77 8)), M)
  else
  ((mm_aV (mm_E n xs N d 241 [.ref 60] M)).bind fun p5 =>
    ((mm_aV (mm_E n xs N d 234 [.ref 60] p5)).bind fun p6 =>
    (lp_X12_hours n xs N d f 37 [some (.ref 60), some (.int y1), some (.int (y2 + (1 : Int32)))] [] p6)))) := by exact rfl
set_option maxRecDepth 40000 in
set_option maxHeartbeats 4000000 in
theorem u_X12_practise (n : Nat) (xs : Nat → Int32) (N d : Nat) (M : mmM) (x1 : Int32) : mm_E n xs N (d + 1) 248 [.ref 60, .int x1] M =
  ((mm_aI (mm_E n xs N d 222 [.ref 60, .int x1] M)).bind fun p1 =>
  (if p1.1 = 0 then
  ((mm_aI (mm_E n xs N d 242 [.ref 60, .int (0 : Int32)] p1.2)).bind fun p2 =>
    (if p2.1 = 0 then
    ((mm_aV (mm_E n xs N d 241 [.ref 60] p2.2)).bind fun p3 =>
      (cond (mm_inb ((0 : Int32) + x1) 198)
      (cond (mm_inb ((0 : Int32) + x1) 198 && Nat.ble 16 77)
        (cond (mm_inb ((0 : Int32) + x1) 198)
              (some (some (.int (mm_I (mm_wI (mm_wI p3 77 (((0 : Int32) + x1).toNatClampNeg) ((mm_I p3 77 (((0 : Int32) + x1).toNatClampNeg)) + (1 : Int32))) 77 13 ((mm_I (mm_wI p3 77 (((0 : Int32) + x1).toNatClampNeg) ((mm_I p3 77 (((0 : Int32) + x1).toNatClampNeg)) + (1 : Int32))) 77 13) - (4 : Int32))) 77 (((0 : Int32) + x1).toNatClampNeg))), (mm_wI (mm_wI p3 77 (((0 : Int32) + x1).toNatClampNeg) ((mm_I p3 77 (((0 : Int32) + x1).toNatClampNeg)) + (1 : Int32))) 77 13 ((mm_I (mm_wI p3 77 (((0 : Int32) + x1).toNatClampNeg) ((mm_I p3 77 (((0 : Int32) + x1).toNatClampNeg)) + (1 : Int32))) 77 13) - (4 : Int32))))) none) none) none))
    else
    some (some (.int (-1 : Int32)), p2.2)))
  else
  (cond (mm_inb ((0 : Int32) + x1) 198)
    (if (mm_I p1.2 77 (((0 : Int32) + x1).toNatClampNeg)) = (9 : Int32) then
      ((mm_aI (mm_E n xs N d 242 [.ref 60, .int (2 : Int32)] p1.2)).bind fun p4 =>
        (if p4.1 = 0 then
        ((mm_aV (mm_E n xs N d 241 [.ref 60] p4.2)).bind fun p5 =>
          (cond (mm_inb ((0 : Int32) + x1) 198)
          (cond (mm_inb ((0 : Int32) + x1) 198 && Nat.ble 16 77)
            (cond (mm_inb ((0 : Int32) + x1) 198)
                  (some (some (.int (mm_I (mm_wI (mm_wI p5 77 (((0 : Int32) + x1).toNatClampNeg) ((mm_I p5 77 (((0 : Int32) + x1).toNatClampNeg)) + (1 : Int32))) 77 13 ((mm_I (mm_wI p5 77 (((0 : Int32) + x1).toNatClampNeg) ((mm_I p5 77 (((0 : Int32) + x1).toNatClampNeg)) + (1 : Int32))) 77 13) - (4 : Int32))) 77 (((0 : Int32) + x1).toNatClampNeg))), (mm_wI (mm_wI p5 77 (((0 : Int32) + x1).toNatClampNeg) ((mm_I p5 77 (((0 : Int32) + x1).toNatClampNeg)) + (1 : Int32))) 77 13 ((mm_I (mm_wI p5 77 (((0 : Int32) + x1).toNatClampNeg) ((mm_I p5 77 (((0 : Int32) + x1).toNatClampNeg)) + (1 : Int32))) 77 13) - (4 : Int32))))) none) none) none))
        else
        some (some (.int (-1 : Int32)), p4.2)))
      else
      (if (4 : Int32) ≤ (mm_I p1.2 77 13) then
          ((mm_aI (mm_E n xs N d 242 [.ref 60, .int (-1 : Int32)] p1.2)).bind fun p6 =>
            (if p6.1 = 0 then
            ((mm_aV (mm_E n xs N d 241 [.ref 60] p6.2)).bind fun p7 =>
              (cond (mm_inb ((0 : Int32) + x1) 198)
              (cond (mm_inb ((0 : Int32) + x1) 198 && Nat.ble 16 77)
                (cond (mm_inb ((0 : Int32) + x1) 198)
                      (some (some (.int (mm_I (mm_wI (mm_wI p7 77 (((0 : Int32) + x1).toNatClampNeg) ((mm_I p7 77 (((0 : Int32) + x1).toNatClampNeg)) + (1 : Int32))) 77 13 ((mm_I (mm_wI p7 77 (((0 : Int32) + x1).toNatClampNeg) ((mm_I p7 77 (((0 : Int32) + x1).toNatClampNeg)) + (1 : Int32))) 77 13) - (4 : Int32))) 77 (((0 : Int32) + x1).toNatClampNeg))), (mm_wI (mm_wI p7 77 (((0 : Int32) + x1).toNatClampNeg) ((mm_I p7 77 (((0 : Int32) + x1).toNatClampNeg)) + (1 : Int32))) 77 13 ((mm_I (mm_wI p7 77 (((0 : Int32) + x1).toNatClampNeg) ((mm_I p7 77 (((0 : Int32) + x1).toNatClampNeg)) + (1 : Int32))) 77 13) - (4 : Int32))))) none) none) none))
            else
            some (some (.int (-1 : Int32)), p6.2)))
          else
          ((mm_aI (mm_E n xs N d 242 [.ref 60, .int (3 : Int32)] p1.2)).bind fun p8 =>
            (if p8.1 = 0 then
            ((mm_aV (mm_E n xs N d 241 [.ref 60] p8.2)).bind fun p9 =>
              (cond (mm_inb ((0 : Int32) + x1) 198)
              (cond (mm_inb ((0 : Int32) + x1) 198 && Nat.ble 16 77)
                (cond (mm_inb ((0 : Int32) + x1) 198)
                      (some (some (.int (mm_I (mm_wI (mm_wI p9 77 (((0 : Int32) + x1).toNatClampNeg) ((mm_I p9 77 (((0 : Int32) + x1).toNatClampNeg)) + (1 : Int32))) 77 13 ((mm_I (mm_wI p9 77 (((0 : Int32) + x1).toNatClampNeg) ((mm_I p9 77 (((0 : Int32) + x1).toNatClampNeg)) + (1 : Int32))) 77 13) - (4 : Int32))) 77 (((0 : Int32) + x1).toNatClampNeg))), (mm_wI (mm_wI p9 77 (((0 : Int32) + x1).toNatClampNeg) ((mm_I p9 77 (((0 : Int32) + x1).toNatClampNeg)) + (1 : Int32))) 77 13 ((mm_I (mm_wI p9 77 (((0 : Int32) + x1).toNatClampNeg) ((mm_I p9 77 (((0 : Int32) + x1).toNatClampNeg)) + (1 : Int32))) 77 13) - (4 : Int32))))) none) none) none))
            else
            some (some (.int (-1 : Int32)), p8.2))))) none))) := by exact rfl
set_option maxRecDepth 40000 in
set_option maxHeartbeats 4000000 in
theorem u_X12_yolk (n : Nat) (xs : Nat → Int32) (N d : Nat) (M : mmM)  : mm_E n xs N (d + 1) 249 [.ref 60] M =
  (if (mm_I M 60 26) = 0 then
  ((mm_aI (mm_E n xs N d 242 [.ref 60, .int (0 : Int32)] M)).bind fun p1 =>
    (if p1.1 = 0 then
    ((mm_aV (mm_E n xs N d 241 [.ref 60] p1.2)).bind fun p2 =>
      some (some (.int ((mm_I p2 77 12) - (1 : Int32))), (mm_wI (mm_wI p2 77 12 ((mm_I p2 77 12) - (1 : Int32))) 77 13 ((mm_I p2 77 13) - (3 : Int32)))))
    else
    some (some (.int (-1 : Int32)), p1.2)))
  else
  (if (mm_I M 77 12) = 0 then
      ((mm_aI (mm_E n xs N d 242 [.ref 60, .int (2 : Int32)] M)).bind fun p3 =>
        (if p3.1 = 0 then
        ((mm_aV (mm_E n xs N d 241 [.ref 60] p3.2)).bind fun p4 =>
          some (some (.int ((mm_I p4 77 12) - (1 : Int32))), (mm_wI (mm_wI p4 77 12 ((mm_I p4 77 12) - (1 : Int32))) 77 13 ((mm_I p4 77 13) - (3 : Int32)))))
        else
        some (some (.int (-1 : Int32)), p3.2)))
      else
      (if (3 : Int32) ≤ (mm_I M 77 13) then
          ((mm_aI (mm_E n xs N d 242 [.ref 60, .int (-1 : Int32)] M)).bind fun p5 =>
            (if p5.1 = 0 then
            ((mm_aV (mm_E n xs N d 241 [.ref 60] p5.2)).bind fun p6 =>
              some (some (.int ((mm_I p6 77 12) - (1 : Int32))), (mm_wI (mm_wI p6 77 12 ((mm_I p6 77 12) - (1 : Int32))) 77 13 ((mm_I p6 77 13) - (3 : Int32)))))
            else
            some (some (.int (-1 : Int32)), p5.2)))
          else
          ((mm_aI (mm_E n xs N d 242 [.ref 60, .int (3 : Int32)] M)).bind fun p7 =>
            (if p7.1 = 0 then
            ((mm_aV (mm_E n xs N d 241 [.ref 60] p7.2)).bind fun p8 =>
              some (some (.int ((mm_I p8 77 12) - (1 : Int32))), (mm_wI (mm_wI p8 77 12 ((mm_I p8 77 12) - (1 : Int32))) 77 13 ((mm_I p8 77 13) - (3 : Int32)))))
            else
            some (some (.int (-1 : Int32)), p7.2)))))) := by exact rfl
set_option maxRecDepth 40000 in
set_option maxHeartbeats 4000000 in
theorem u_X12_give (n : Nat) (xs : Nat → Int32) (N d : Nat) (M : mmM) (x1 : Int32) : mm_E n xs N (d + 1) 250 [.ref 60, .int x1] M =
  (if (mm_I M 60 26) = 0 then
  ((mm_aI (mm_E n xs N d 242 [.ref 60, .int (0 : Int32)] M)).bind fun p1 =>
    (if p1.1 = 0 then
    ((mm_aV (mm_E n xs N d 241 [.ref 60] p1.2)).bind fun p2 =>
      some (some (.int ((mm_I p2 77 13) + x1)), (mm_wI p2 77 13 ((mm_I p2 77 13) + x1))))
    else
    some (some (.int (-1 : Int32)), p1.2)))
  else
  ((mm_aI (mm_E n xs N d 179 [.int x1, .int (1 : Int32), .int (50 : Int32)] M)).bind fun p3 =>
    (if p3.1 = 0 then
    ((mm_aI (mm_E n xs N d 242 [.ref 60, .int (1 : Int32)] p3.2)).bind fun p4 =>
      (if p4.1 = 0 then
      ((mm_aV (mm_E n xs N d 241 [.ref 60] p4.2)).bind fun p5 =>
        some (some (.int ((mm_I p5 77 13) + x1)), (mm_wI p5 77 13 ((mm_I p5 77 13) + x1))))
      else
      some (some (.int (-1 : Int32)), p4.2)))
    else
    (if ((mm_I p3.2 77 13) + x1) ≤ (999 : Int32) then
        ((mm_aI (mm_E n xs N d 242 [.ref 60, .int (-1 : Int32)] p3.2)).bind fun p6 =>
          (if p6.1 = 0 then
          ((mm_aV (mm_E n xs N d 241 [.ref 60] p6.2)).bind fun p7 =>
            some (some (.int ((mm_I p7 77 13) + x1)), (mm_wI p7 77 13 ((mm_I p7 77 13) + x1))))
          else
          some (some (.int (-1 : Int32)), p6.2)))
        else
        ((mm_aI (mm_E n xs N d 242 [.ref 60, .int (1 : Int32)] p3.2)).bind fun p8 =>
          (if p8.1 = 0 then
          ((mm_aV (mm_E n xs N d 241 [.ref 60] p8.2)).bind fun p9 =>
            some (some (.int ((mm_I p9 77 13) + x1)), (mm_wI p9 77 13 ((mm_I p9 77 13) + x1))))
          else
          some (some (.int (-1 : Int32)), p8.2))))))) := by exact rfl
noncomputable def lp_X12_passDay (n : Nat) (xs : Nat → Int32) (N d f t : Nat) : mmK := mm_lp (mm_Y n xs) (mm_E n xs N d) cd_X12_passDay.1 cd_X12_passDay.2.1 f t
set_option maxRecDepth 40000 in
set_option maxHeartbeats 4000000 in
theorem u_X12_passDay (n : Nat) (xs : Nat → Int32) (N d : Nat) (M : mmM)  : mm_E n xs N (d + 1) 251 [.ref 60] M =
  ((mm_aI (mm_E n xs N d 230 [.ref 60] M)).bind fun p1 =>
    ((mm_aI (mm_E n xs N d 304 [.int (9999 : Int32), .int ((mm_I M 77 14) + p1.1)] p1.2)).bind fun p2 =>
    ((mm_aI (mm_E n xs N d 304 [.int (999 : Int32), .int ((mm_I p2.2 77 13) + (2 : Int32))] (mm_wI p2.2 77 14 p2.1))).bind fun p3 =>
        (if (mm_I p3.2 77 17) = (60 : Int32) then
            (lp_X12_passDay n xs N d N 61 [some (.ref 60), some (.int (3 : Int32)), none] [] (mm_wI p3.2 77 13 p3.1))
            else
            (cond (mm_inb ((18 : Int32) + ((3 : Int32) * (mm_I p3.2 77 17))) 198 && Nat.ble 16 77)
                  (cond (mm_inb (((18 : Int32) + ((3 : Int32) * (mm_I p3.2 77 17))) + (1 : Int32)) 198 && Nat.ble 16 77)
                      (cond (mm_inb (((18 : Int32) + ((3 : Int32) * (mm_I p3.2 77 17))) + (2 : Int32)) 198 && Nat.ble 16 77)
                          (lp_X12_passDay n xs N d N 206 [some (.ref 60), none, some (.int (0 : Int32))] [] (mm_wI (mm_wI (mm_wI (mm_wI (mm_wI (mm_wI (mm_wI (mm_wI (mm_wI p3.2 77 13 p3.1) 77 (((18 : Int32) + ((3 : Int32) * (mm_I p3.2 77 17))).toNatClampNeg) (mm_I p3.2 77 8)) 77 ((((18 : Int32) + ((3 : Int32) * (mm_I p3.2 77 17))) + (1 : Int32)).toNatClampNeg) (mm_I (mm_wI (mm_wI p3.2 77 13 p3.1) 77 (((18 : Int32) + ((3 : Int32) * (mm_I p3.2 77 17))).toNatClampNeg) (mm_I p3.2 77 8)) 77 10)) 77 ((((18 : Int32) + ((3 : Int32) * (mm_I p3.2 77 17))) + (2 : Int32)).toNatClampNeg) (mm_I (mm_wI (mm_wI (mm_wI p3.2 77 13 p3.1) 77 (((18 : Int32) + ((3 : Int32) * (mm_I p3.2 77 17))).toNatClampNeg) (mm_I p3.2 77 8)) 77 ((((18 : Int32) + ((3 : Int32) * (mm_I p3.2 77 17))) + (1 : Int32)).toNatClampNeg) (mm_I (mm_wI (mm_wI p3.2 77 13 p3.1) 77 (((18 : Int32) + ((3 : Int32) * (mm_I p3.2 77 17))).toNatClampNeg) (mm_I p3.2 77 8)) 77 10)) 77 9)) 77 17 ((mm_I (mm_wI (mm_wI (mm_wI (mm_wI p3.2 77 13 p3.1) 77 (((18 : Int32) + ((3 : Int32) * (mm_I p3.2 77 17))).toNatClampNeg) (mm_I p3.2 77 8)) 77 ((((18 : Int32) + ((3 : Int32) * (mm_I p3.2 77 17))) + (1 : Int32)).toNatClampNeg) (mm_I (mm_wI (mm_wI p3.2 77 13 p3.1) 77 (((18 : Int32) + ((3 : Int32) * (mm_I p3.2 77 17))).toNatClampNeg) (mm_I p3.2 77 8)) 77 10)) 77 ((((18 : Int32) + ((3 : Int32) * (mm_I p3.2 77 17))) + (2 : Int32)).toNatClampNeg) (mm_I (mm_wI (mm_wI (mm_wI p3.2 77 13 p3.1) 77 (((18 : Int32) + ((3 : Int32) * (mm_I p3.2 77 17))).toNatClampNeg) (mm_I p3.2 77 8)) 77 ((((18 : Int32) + ((3 : Int32) * (mm_I p3.2 77 17))) + (1 : Int32)).toNatClampNeg) (mm_I (mm_wI (mm_wI p3.2 77 13 p3.1) 77 (((18 : Int32) + ((3 : Int32) * (mm_I p3.2 77 17))).toNatClampNeg) (mm_I p3.2 77 8)) 77 10)) 77 9)) 77 17) + (1 : Int32))) 77 8 (0 : Int32)) 77 9 (0 : Int32)) 77 10 (0 : Int32)) 77 11 (0 : Int32))) none) none) none))))) := by exact rfl
set_option maxRecDepth 40000 in
set_option maxHeartbeats 4000000 in
theorem lu_X12_passDay_61 (n : Nat) (xs : Nat → Int32) (N d f : Nat) (M : mmM) (y1 : Int32) : lp_X12_passDay n xs N d (f + 1) 61 [some (.ref 60), some (.int y1), none] [] M =
  (if (180 : Int32) ≤ y1 then
  (cond (mm_inb ((18 : Int32) + ((3 : Int32) * ((mm_I M 77 17) - (1 : Int32)))) 198 && Nat.ble 16 77)
            (cond (mm_inb (((18 : Int32) + ((3 : Int32) * ((mm_I M 77 17) - (1 : Int32)))) + (1 : Int32)) 198 && Nat.ble 16 77)
                (cond (mm_inb (((18 : Int32) + ((3 : Int32) * ((mm_I M 77 17) - (1 : Int32)))) + (2 : Int32)) 198 && Nat.ble 16 77)
                    (lp_X12_passDay n xs N d f 206 [some (.ref 60), none, some (.int (0 : Int32))] [] (mm_wI (mm_wI (mm_wI (mm_wI (mm_wI (mm_wI (mm_wI (mm_wI (mm_wI M 77 17 ((mm_I M 77 17) - (1 : Int32))) 77 (((18 : Int32) + ((3 : Int32) * ((mm_I M 77 17) - (1 : Int32)))).toNatClampNeg) (mm_I M 77 8)) 77 ((((18 : Int32) + ((3 : Int32) * ((mm_I M 77 17) - (1 : Int32)))) + (1 : Int32)).toNatClampNeg) (mm_I (mm_wI (mm_wI M 77 17 ((mm_I M 77 17) - (1 : Int32))) 77 (((18 : Int32) + ((3 : Int32) * ((mm_I M 77 17) - (1 : Int32)))).toNatClampNeg) (mm_I M 77 8)) 77 10)) 77 ((((18 : Int32) + ((3 : Int32) * ((mm_I M 77 17) - (1 : Int32)))) + (2 : Int32)).toNatClampNeg) (mm_I (mm_wI (mm_wI (mm_wI M 77 17 ((mm_I M 77 17) - (1 : Int32))) 77 (((18 : Int32) + ((3 : Int32) * ((mm_I M 77 17) - (1 : Int32)))).toNatClampNeg) (mm_I M 77 8)) 77 ((((18 : Int32) + ((3 : Int32) * ((mm_I M 77 17) - (1 : Int32)))) + (1 : Int32)).toNatClampNeg) (mm_I (mm_wI (mm_wI M 77 17 ((mm_I M 77 17) - (1 : Int32))) 77 (((18 : Int32) + ((3 : Int32) * ((mm_I M 77 17) - (1 : Int32)))).toNatClampNeg) (mm_I M 77 8)) 77 10)) 77 9)) 77 17 ((mm_I (mm_wI (mm_wI (mm_wI (mm_wI M 77 17 ((mm_I M 77 17) - (1 : Int32))) 77 (((18 : Int32) + ((3 : Int32) * ((mm_I M 77 17) - (1 : Int32)))).toNatClampNeg) (mm_I M 77 8)) 77 ((((18 : Int32) + ((3 : Int32) * ((mm_I M 77 17) - (1 : Int32)))) + (1 : Int32)).toNatClampNeg) (mm_I (mm_wI (mm_wI M 77 17 ((mm_I M 77 17) - (1 : Int32))) 77 (((18 : Int32) + ((3 : Int32) * ((mm_I M 77 17) - (1 : Int32)))).toNatClampNeg) (mm_I M 77 8)) 77 10)) 77 ((((18 : Int32) + ((3 : Int32) * ((mm_I M 77 17) - (1 : Int32)))) + (2 : Int32)).toNatClampNeg) (mm_I (mm_wI (mm_wI (mm_wI M 77 17 ((mm_I M 77 17) - (1 : Int32))) 77 (((18 : Int32) + ((3 : Int32) * ((mm_I M 77 17) - (1 : Int32)))).toNatClampNeg) (mm_I M 77 8)) 77 ((((18 : Int32) + ((3 : Int32) * ((mm_I M 77 17) - (1 : Int32)))) + (1 : Int32)).toNatClampNeg) (mm_I (mm_wI (mm_wI M 77 17 ((mm_I M 77 17) - (1 : Int32))) 77 (((18 : Int32) + ((3 : Int32) * ((mm_I M 77 17) - (1 : Int32)))).toNatClampNeg) (mm_I M 77 8)) 77 10)) 77 9)) 77 17) + (1 : Int32))) 77 8 (0 : Int32)) 77 9 (0 : Int32)) 77 10 (0 : Int32)) 77 11 (0 : Int32))) none) none) none)
  else
  (cond (mm_inb ((18 : Int32) + y1) 198)
    (cond (mm_inb (((18 : Int32) + y1) - (3 : Int32)) 198 && Nat.ble 16 77)
      (lp_X12_passDay n xs N d f 61 [some (.ref 60), some (.int (y1 + (1 : Int32))), none] [] (mm_wI M 77 ((((18 : Int32) + y1) - (3 : Int32)).toNatClampNeg) (mm_I M 77 (((18 : Int32) + y1).toNatClampNeg)))) none) none)) := by exact rfl
set_option maxRecDepth 40000 in
set_option maxHeartbeats 4000000 in
theorem lu_X12_passDay_206 (n : Nat) (xs : Nat → Int32) (N d f : Nat) (M : mmM) (y2 : Int32) : lp_X12_passDay n xs N d (f + 1) 206 [some (.ref 60), none, some (.int y2)] [] M =
  (if (mm_I M 60 25) ≤ y2 then
  some (none, (mm_wI M 77 16 ((mm_I M 77 16) + (1 : Int32))))
  else
  (cond (mm_inb ((4 : Int32) + y2) 198 && Nat.ble 16 77)
    (lp_X12_passDay n xs N d f 206 [some (.ref 60), none, some (.int (y2 + (1 : Int32)))] [] (mm_wI M 77 (((4 : Int32) + y2).toNatClampNeg) (0 : Int32))) none)) := by exact rfl
set_option maxRecDepth 40000 in
set_option maxHeartbeats 4000000 in
theorem u_X12_areDays (n : Nat) (xs : Nat → Int32) (N d : Nat) (M : mmM) (x1 : Int32) : mm_E n xs N (d + 1) 252 [.ref 60, .int x1] M =
  ((mm_aI (mm_E n xs N d 179 [.int x1, .int (1 : Int32), .int (60 : Int32)] M)).bind fun p1 =>
  (if p1.1 = 0 then
  some (some (.int (0 : Int32)), p1.2)
  else
  (if (999 : Int32) < ((mm_I p1.2 77 16) + x1) then
      some (some (.int (0 : Int32)), p1.2)
      else
      some (some (.int (1 : Int32)), p1.2)))) := by exact rfl
noncomputable def lp_X12_days (n : Nat) (xs : Nat → Int32) (N d f t : Nat) : mmK := mm_lp (mm_Y n xs) (mm_E n xs N d) cd_X12_days.1 cd_X12_days.2.1 f t
set_option maxRecDepth 40000 in
set_option maxHeartbeats 4000000 in
theorem u_X12_days (n : Nat) (xs : Nat → Int32) (N d : Nat) (M : mmM) (x1 : Int32) : mm_E n xs N (d + 1) 253 [.ref 60, .int x1] M =
  (if (mm_I M 60 26) = 0 then
  ((mm_aI (mm_E n xs N d 242 [.ref 60, .int (0 : Int32)] M)).bind fun p1 =>
    (if p1.1 = 0 then
    (lp_X12_days n xs N d N 49 [some (.ref 60), some (.int x1), some (.int (0 : Int32))] [] p1.2)
    else
    some (some (.int (-1 : Int32)), p1.2)))
  else
  ((mm_aI (mm_E n xs N d 179 [.int x1, .int (1 : Int32), .int (60 : Int32)] M)).bind fun p2 =>
    (if p2.1 = 0 then
    ((mm_aI (mm_E n xs N d 242 [.ref 60, .int (1 : Int32)] p2.2)).bind fun p3 =>
      (if p3.1 = 0 then
      (lp_X12_days n xs N d N 49 [some (.ref 60), some (.int x1), some (.int (0 : Int32))] [] p3.2)
      else
      some (some (.int (-1 : Int32)), p3.2)))
    else
    ((mm_aI (mm_E n xs N d 252 [.ref 60, .int x1] p2.2)).bind fun p4 =>
      (if p4.1 = 0 then
      ((mm_aI (mm_E n xs N d 242 [.ref 60, .int (4 : Int32)] p4.2)).bind fun p5 =>
        (if p5.1 = 0 then
        (lp_X12_days n xs N d N 49 [some (.ref 60), some (.int x1), some (.int (0 : Int32))] [] p5.2)
        else
        some (some (.int (-1 : Int32)), p5.2)))
      else
      ((mm_aI (mm_E n xs N d 242 [.ref 60, .int (-1 : Int32)] p4.2)).bind fun p6 =>
        (if p6.1 = 0 then
        (lp_X12_days n xs N d N 49 [some (.ref 60), some (.int x1), some (.int (0 : Int32))] [] p6.2)
        else
        some (some (.int (-1 : Int32)), p6.2)))))))) := by exact rfl
set_option maxRecDepth 40000 in
set_option maxHeartbeats 4000000 in
theorem lu_X12_days_49 (n : Nat) (xs : Nat → Int32) (N d f : Nat) (M : mmM) (y1 : Int32) (y2 : Int32) : lp_X12_days n xs N d (f + 1) 49 [some (.ref 60), some (.int y1), some (.int y2)] [] M =
  (if y1 ≤ y2 then
  some (some (.int (mm_I M 77 16)), M)
  else
  ((mm_aV (mm_E n xs N d 241 [.ref 60] M)).bind fun p7 =>
    ((mm_aV (mm_E n xs N d 251 [.ref 60] p7)).bind fun p8 =>
    (lp_X12_days n xs N d f 49 [some (.ref 60), some (.int y1), some (.int (y2 + (1 : Int32)))] [] p8)))) := by exact rfl
set_option maxRecDepth 40000 in
set_option maxHeartbeats 4000000 in
theorem u_X12_draught (n : Nat) (xs : Nat → Int32) (N d : Nat) (M : mmM) (x1 : Int32) : mm_E n xs N (d + 1) 254 [.ref 60, .int x1] M =
  ((mm_aI (mm_E n xs N d 179 [.int x1, .int (0 : Int32), .int (9 : Int32)] M)).bind fun p1 =>
  (if p1.1 = 0 then
  some (some (.int (0 : Int32)), p1.2)
  else
  (if x1 = (mm_I p1.2 60 30) then
    some (some (.int (0 : Int32)), p1.2)
    else
    some (some (.int (1 : Int32)), (mm_wI p1.2 60 30 x1))))) := by exact rfl
set_option maxRecDepth 40000 in
set_option maxHeartbeats 4000000 in
theorem u_X12_draw (n : Nat) (xs : Nat → Int32) (N d : Nat) (M : mmM) (x1 : Int32) : mm_E n xs N (d + 1) 255 [.ref 60, .int x1] M =
  (if x1.toInt64 = 0 then none else
  some (some (.int (((((((mm_J M 60 33) * (6364136223846793005 : Int64)) + (1442695040888963407 : Int64)).toUInt64 >>> ((33 : Int32).toInt64.toUInt64 &&& Int64.toUInt64 63)).toInt64) - (((((mm_J M 60 33) * (6364136223846793005 : Int64)) + (1442695040888963407 : Int64)).toUInt64 >>> ((33 : Int32).toInt64.toUInt64 &&& Int64.toUInt64 63)).toInt64) / x1.toInt64 * x1.toInt64).toInt32)), (mm_wJ M 60 33 (((mm_J M 60 33) * (6364136223846793005 : Int64)) + (1442695040888963407 : Int64))))) := by exact rfl
noncomputable def lp_X12_drawDay (n : Nat) (xs : Nat → Int32) (N d f t : Nat) : mmK := mm_lp (mm_Y n xs) (mm_E n xs N d) cd_X12_drawDay.1 cd_X12_drawDay.2.1 f t
set_option maxRecDepth 40000 in
set_option maxHeartbeats 4000000 in
theorem u_X12_drawDay (n : Nat) (xs : Nat → Int32) (N d : Nat) (M : mmM)  : mm_E n xs N (d + 1) 256 [.ref 60] M =
  ((mm_aI (mm_E n xs N d 255 [.ref 60, .int (mm_I M 60 25)] M)).bind fun p1 =>
  ((mm_aI (mm_E n xs N d 255 [.ref 60, .int (10 : Int32)] p1.2)).bind fun p2 =>
  ((mm_aI (mm_E n xs N d 224 [.ref 60, .int p1.1] p2.2)).bind fun p3 =>
  ((mm_aI (mm_E n xs N d 304 [.int (p2.1 + (5 : Int32)), .int p3.1] p3.2)).bind fun p4 =>
  ((mm_aV (mm_E n xs N d 228 [.ref 60, .int p1.1, .int p4.1] p4.2)).bind fun p5 =>
  (lp_X12_drawDay n xs N d N 34 [some (.ref 60), none, none, some (.int (0 : Int32)), none] [] p5)))))) := by exact rfl
set_option maxRecDepth 40000 in
set_option maxHeartbeats 4000000 in
theorem lu_X12_drawDay_34 (n : Nat) (xs : Nat → Int32) (N d f : Nat) (M : mmM) (y3 : Int32) : lp_X12_drawDay n xs N d (f + 1) 34 [some (.ref 60), none, none, some (.int y3), none] [] M =
  (if (mm_I M 60 26) ≤ y3 then
  ((mm_aI (mm_E n xs N d 255 [.ref 60, .int (10 : Int32)] M)).bind fun p6 =>
    (if (mm_I p6.2 60 30) ≤ p6.1 then
    some (none, p6.2)
    else
    ((mm_aV (mm_E n xs N d 233 [.ref 60] p6.2)).bind fun p7 =>
      some (none, p7))))
  else
  ((mm_aI (mm_E n xs N d 255 [.ref 60, .int (mm_I M 60 26)] M)).bind fun p8 =>
    ((mm_aI (mm_E n xs N d 235 [.ref 60, .int p8.1] p8.2)).bind fun p9 =>
    (if p9.1 = 0 then
    (lp_X12_drawDay n xs N d f 34 [some (.ref 60), none, none, some (.int (y3 + (1 : Int32))), none] [] p9.2)
    else
    ((mm_aV (mm_E n xs N d 236 [.ref 60, .int p8.1] p9.2)).bind fun p10 =>
      (lp_X12_drawDay n xs N d f 34 [some (.ref 60), none, none, some (.int (y3 + (1 : Int32))), none] [] p10)))))) := by exact rfl
noncomputable def lp_X12_years (n : Nat) (xs : Nat → Int32) (N d f t : Nat) : mmK := mm_lp (mm_Y n xs) (mm_E n xs N d) cd_X12_years.1 cd_X12_years.2.1 f t
set_option maxRecDepth 40000 in
set_option maxHeartbeats 4000000 in
theorem u_X12_years (n : Nat) (xs : Nat → Int32) (N d : Nat) (M : mmM) (x1 : Int32) (x2 : Int64) : mm_E n xs N (d + 1) 257 [.ref 60, .int x1, .long x2] M =
  (if (mm_I M 60 26) = 0 then
  some (some (.int (-1 : Int32)), M)
  else
  ((mm_aI (mm_E n xs N d 252 [.ref 60, .int x1] M)).bind fun p1 =>
    (if p1.1 = 0 then
    some (some (.int (-1 : Int32)), p1.2)
    else
    (lp_X12_years n xs N d N 25 [some (.ref 60), some (.int x1), none, none, some (.int (0 : Int32))] [] (mm_wJ p1.2 60 33 x2))))) := by exact rfl
set_option maxRecDepth 40000 in
set_option maxHeartbeats 4000000 in
theorem lu_X12_years_25 (n : Nat) (xs : Nat → Int32) (N d f : Nat) (M : mmM) (y1 : Int32) (y4 : Int32) : lp_X12_years n xs N d (f + 1) 25 [some (.ref 60), some (.int y1), none, none, some (.int y4)] [] M =
  (if y1 ≤ y4 then
  some (some (.int (mm_I M 77 16)), M)
  else
  ((mm_aV (mm_E n xs N d 241 [.ref 60] M)).bind fun p2 =>
    ((mm_aV (mm_E n xs N d 256 [.ref 60] p2)).bind fun p3 =>
    ((mm_aV (mm_E n xs N d 251 [.ref 60] p3)).bind fun p4 =>
    (lp_X12_years n xs N d f 25 [some (.ref 60), some (.int y1), none, none, some (.int (y4 + (1 : Int32)))] [] p4))))) := by exact rfl
set_option maxRecDepth 40000 in
set_option maxHeartbeats 4000000 in
theorem u_X12_status (n : Nat) (xs : Nat → Int32) (N d : Nat) (M : mmM) (x1 : Int32) : mm_E n xs N (d + 1) 258 [.ref 60, .int x1] M =
  ((mm_aI (mm_E n xs N d 179 [.int x1, .int (0 : Int32), .int (4 : Int32)] M)).bind fun p1 =>
  (if p1.1 = 0 then
  some (some (.int (-1 : Int32)), p1.2)
  else
  (cond (mm_inb x1 5)
    (some (some (.int (mm_I p1.2 78 x1.toNatClampNeg)), p1.2)) none))) := by exact rfl
noncomputable def lp_X12_undo (n : Nat) (xs : Nat → Int32) (N d f t : Nat) : mmK := mm_lp (mm_Y n xs) (mm_E n xs N d) cd_X12_undo.1 cd_X12_undo.2.1 f t
set_option maxRecDepth 40000 in
set_option maxHeartbeats 4000000 in
theorem u_X12_undo (n : Nat) (xs : Nat → Int32) (N d : Nat) (M : mmM)  : mm_E n xs N (d + 1) 259 [.ref 60] M =
  (if (mm_I M 60 32) = 0 then
  some (some (.int (-1 : Int32)), M)
  else
  (lp_X12_undo n xs N d N 21 [some (.ref 60), some (.int (0 : Int32))] [] (mm_wI M 60 32 ((mm_I M 60 32) - (1 : Int32))))) := by exact rfl
set_option maxRecDepth 40000 in
set_option maxHeartbeats 4000000 in
theorem lu_X12_undo_21 (n : Nat) (xs : Nat → Int32) (N d f : Nat) (M : mmM) (y1 : Int32) : lp_X12_undo n xs N d (f + 1) 21 [some (.ref 60), some (.int y1)] [] M =
  (if (198 : Int32) ≤ y1 then
  some (some (.int (mm_I M 60 32)), M)
  else
  (cond (mm_inb (((198 : Int32) * (mm_I M 60 32)) + y1) 7920)
    (cond (mm_inb y1 198 && Nat.ble 16 77)
      (lp_X12_undo n xs N d f 21 [some (.ref 60), some (.int (y1 + (1 : Int32)))] [] (mm_wI M 77 y1.toNatClampNeg (mm_I M 79 ((((198 : Int32) * (mm_I M 60 32)) + y1).toNatClampNeg)))) none) none)) := by exact rfl
set_option maxRecDepth 40000 in
set_option maxHeartbeats 4000000 in
theorem u_X12_log (n : Nat) (xs : Nat → Int32) (N d : Nat) (M : mmM) (x1 : Int32) (x2 : Int32) : mm_E n xs N (d + 1) 260 [.ref 60, .int x1, .int x2] M =
  ((mm_aI (mm_E n xs N d 179 [.int x1, .int (0 : Int32), .int ((mm_I M 77 17) - (1 : Int32))] M)).bind fun p1 =>
    (if p1.1 = 0 then
    some (some (.int (-1 : Int32)), p1.2)
    else
    ((mm_aI (mm_E n xs N d 179 [.int x2, .int (0 : Int32), .int (2 : Int32)] p1.2)).bind fun p2 =>
      (if p2.1 = 0 then
      some (some (.int (-1 : Int32)), p2.2)
      else
      (cond (mm_inb (((18 : Int32) + ((3 : Int32) * (((mm_I p2.2 77 17) - (1 : Int32)) - x1))) + x2) 198)
          (some (some (.int (mm_I p2.2 77 ((((18 : Int32) + ((3 : Int32) * (((mm_I p2.2 77 17) - (1 : Int32)) - x1))) + x2).toNatClampNeg))), p2.2)) none))))) := by exact rfl
noncomputable def lp_X12_putAside (n : Nat) (xs : Nat → Int32) (N d f t : Nat) : mmK := mm_lp (mm_Y n xs) (mm_E n xs N d) cd_X12_putAside.1 cd_X12_putAside.2.1 f t
set_option maxRecDepth 40000 in
set_option maxHeartbeats 4000000 in
theorem u_X12_putAside (n : Nat) (xs : Nat → Int32) (N d : Nat) (M : mmM) (x1 : Int32) : mm_E n xs N (d + 1) 261 [.ref 60, .int x1] M =
  (lp_X12_putAside n xs N d N 2 [some (.ref 60), some (.int x1), some (.int (0 : Int32))] [] M) := by exact rfl
set_option maxRecDepth 40000 in
set_option maxHeartbeats 4000000 in
theorem lu_X12_putAside_2 (n : Nat) (xs : Nat → Int32) (N d f : Nat) (M : mmM) (y1 : Int32) (y2 : Int32) : lp_X12_putAside n xs N d (f + 1) 2 [some (.ref 60), some (.int y1), some (.int y2)] [] M =
  (if (17 : Int32) ≤ y2 then
  some (none, M)
  else
  (cond (mm_inb y2 198)
    (cond (mm_inb (((17 : Int32) * y1) + y2) 170 && Nat.ble 16 80)
      (lp_X12_putAside n xs N d f 2 [some (.ref 60), some (.int y1), some (.int (y2 + (1 : Int32)))] [] (mm_wI M 80 ((((17 : Int32) * y1) + y2).toNatClampNeg) (mm_I M 77 y2.toNatClampNeg))) none) none)) := by exact rfl
noncomputable def lp_X12_takeBack (n : Nat) (xs : Nat → Int32) (N d f t : Nat) : mmK := mm_lp (mm_Y n xs) (mm_E n xs N d) cd_X12_takeBack.1 cd_X12_takeBack.2.1 f t
set_option maxRecDepth 40000 in
set_option maxHeartbeats 4000000 in
theorem u_X12_takeBack (n : Nat) (xs : Nat → Int32) (N d : Nat) (M : mmM) (x1 : Int32) : mm_E n xs N (d + 1) 262 [.ref 60, .int x1] M =
  (lp_X12_takeBack n xs N d N 2 [some (.ref 60), some (.int x1), some (.int (0 : Int32))] [] M) := by exact rfl
set_option maxRecDepth 40000 in
set_option maxHeartbeats 4000000 in
theorem lu_X12_takeBack_2 (n : Nat) (xs : Nat → Int32) (N d f : Nat) (M : mmM) (y1 : Int32) (y2 : Int32) : lp_X12_takeBack n xs N d (f + 1) 2 [some (.ref 60), some (.int y1), some (.int y2)] [] M =
  (if (17 : Int32) ≤ y2 then
  some (none, M)
  else
  (cond (mm_inb (((17 : Int32) * y1) + y2) 170)
    (cond (mm_inb y2 198 && Nat.ble 16 77)
      (lp_X12_takeBack n xs N d f 2 [some (.ref 60), some (.int y1), some (.int (y2 + (1 : Int32)))] [] (mm_wI M 77 y2.toNatClampNeg (mm_I M 80 ((((17 : Int32) * y1) + y2).toNatClampNeg)))) none) none)) := by exact rfl
set_option maxRecDepth 40000 in
set_option maxHeartbeats 4000000 in
theorem u_X12_standsBehind (n : Nat) (xs : Nat → Int32) (N d : Nat) (M : mmM) (x1 : Int32) (x2 : Int32) : mm_E n xs N (d + 1) 263 [.ref 60, .int x1, .int x2] M =
  ((mm_aV (mm_E n xs N d 261 [.ref 60, .int (0 : Int32)] M)).bind fun p1 =>
  ((mm_aI (mm_E n xs N d 224 [.ref 60, .int x1] p1)).bind fun p2 =>
  ((mm_aI (mm_E n xs N d 304 [.int x2, .int p2.1] p2.2)).bind fun p3 =>
  ((mm_aV (mm_E n xs N d 228 [.ref 60, .int x1, .int p3.1] p3.2)).bind fun p4 =>
  ((mm_aV (mm_E n xs N d 262 [.ref 60, .int (0 : Int32)] p4)).bind fun p5 =>
    some (some (.int (mm_I p4 77 8)), p5)))))) := by exact rfl
set_option maxRecDepth 40000 in
set_option maxHeartbeats 4000000 in
theorem u_X12_behind (n : Nat) (xs : Nat → Int32) (N d : Nat) (M : mmM) (x1 : Int32) (x2 : Int32) : mm_E n xs N (d + 1) 264 [.ref 60, .int x1, .int x2] M =
  ((mm_aI (mm_E n xs N d 222 [.ref 60, .int x1] M)).bind fun p1 =>
  (if p1.1 = 0 then
  some (some (.int (-1 : Int32)), p1.2)
  else
  ((mm_aI (mm_E n xs N d 179 [.int x2, .int (0 : Int32), .int (40 : Int32)] p1.2)).bind fun p2 =>
    (if p2.1 = 0 then
    some (some (.int (-1 : Int32)), p2.2)
    else
    ((mm_aI (mm_E n xs N d 263 [.ref 60, .int x1, .int x2] p2.2)).bind fun p3 =>
      some (some (.int p3.1), p3.2)))))) := by exact rfl
noncomputable def lp_X12_soonestOf (n : Nat) (xs : Nat → Int32) (N d f t : Nat) : mmK := mm_lp (mm_Y n xs) (mm_E n xs N d) cd_X12_soonestOf.1 cd_X12_soonestOf.2.1 f t
set_option maxRecDepth 40000 in
set_option maxHeartbeats 4000000 in
theorem u_X12_soonestOf (n : Nat) (xs : Nat → Int32) (N d : Nat) (M : mmM) (x1 : Int32) (x2 : Int32) : mm_E n xs N (d + 1) 265 [.ref 60, .int x1, .int x2] M =
  (lp_X12_soonestOf n xs N d N 2 [some (.ref 60), some (.int x1), some (.int x2), some (.int (0 : Int32))] [] M) := by exact rfl
set_option maxRecDepth 40000 in
set_option maxHeartbeats 4000000 in
theorem lu_X12_soonestOf_2 (n : Nat) (xs : Nat → Int32) (N d f : Nat) (M : mmM) (y1 : Int32) (y2 : Int32) (y3 : Int32) : lp_X12_soonestOf n xs N d (f + 1) 2 [some (.ref 60), some (.int y1), some (.int y2), some (.int y3)] [] M =
  ((mm_aI (mm_E n xs N d 224 [.ref 60, .int y1] M)).bind fun p1 =>
  (if p1.1 < y3 then
  some (some (.int (-1 : Int32)), p1.2)
  else
  ((mm_aI (mm_E n xs N d 263 [.ref 60, .int y1, .int y3] p1.2)).bind fun p2 =>
    (if p2.1 < y2 then
    (lp_X12_soonestOf n xs N d f 2 [some (.ref 60), some (.int y1), some (.int y2), some (.int (y3 + (1 : Int32)))] [] p2.2)
    else
    some (some (.int y3), p2.2))))) := by exact rfl
set_option maxRecDepth 40000 in
set_option maxHeartbeats 4000000 in
theorem u_X12_soonest (n : Nat) (xs : Nat → Int32) (N d : Nat) (M : mmM) (x1 : Int32) (x2 : Int32) : mm_E n xs N (d + 1) 266 [.ref 60, .int x1, .int x2] M =
  ((mm_aI (mm_E n xs N d 222 [.ref 60, .int x1] M)).bind fun p1 =>
  (if p1.1 = 0 then
  some (some (.int (-1 : Int32)), p1.2)
  else
  ((mm_aI (mm_E n xs N d 179 [.int x2, .int (0 : Int32), .int (99 : Int32)] p1.2)).bind fun p2 =>
    (if p2.1 = 0 then
    some (some (.int (-1 : Int32)), p2.2)
    else
    ((mm_aI (mm_E n xs N d 265 [.ref 60, .int x1, .int x2] p2.2)).bind fun p3 =>
      some (some (.int p3.1), p3.2)))))) := by exact rfl
noncomputable def lp_X12_stop (n : Nat) (xs : Nat → Int32) (N d f t : Nat) : mmK := mm_lp (mm_Y n xs) (mm_E n xs N d) cd_X12_stop.1 cd_X12_stop.2.1 f t
set_option maxRecDepth 40000 in
set_option maxHeartbeats 4000000 in
theorem u_X12_stop (n : Nat) (xs : Nat → Int32) (N d : Nat) (M : mmM) (x1 : Int32) (x2 : Int32) : mm_E n xs N (d + 1) 267 [.ref 60, .int x1, .int x2] M =
  ((mm_aI (mm_E n xs N d 222 [.ref 60, .int x1] M)).bind fun p1 =>
  (if p1.1 = 0 then
  some (some (.int (-1 : Int32)), p1.2)
  else
  ((mm_aI (mm_E n xs N d 179 [.int x2, .int (0 : Int32), .int (1 : Int32)] p1.2)).bind fun p2 =>
    (if p2.1 = 0 then
    some (some (.int (-1 : Int32)), p2.2)
    else
    (lp_X12_stop n xs N d N 24 [some (.ref 60), some (.int x1), some (.int x2), some (.int (0 : Int32)), some (.int (1 : Int32))] [] p2.2))))) := by exact rfl
set_option maxRecDepth 40000 in
set_option maxHeartbeats 4000000 in
theorem lu_X12_stop_24 (n : Nat) (xs : Nat → Int32) (N d f : Nat) (M : mmM) (y1 : Int32) (y2 : Int32) (y3 : Int32) (y4 : Int32) : lp_X12_stop n xs N d (f + 1) 24 [some (.ref 60), some (.int y1), some (.int y2), some (.int y3), some (.int y4)] [] M =
  ((mm_aI (mm_E n xs N d 224 [.ref 60, .int y1] M)).bind fun p3 =>
  (if p3.1 < y4 then
  (if y2 = 0 then
    some (some (.int y3), p3.2)
    else
    ((mm_aI (mm_E n xs N d 263 [.ref 60, .int y1, .int y3] p3.2)).bind fun p4 =>
      some (some (.int p4.1), p4.2)))
  else
  ((mm_aI (mm_E n xs N d 263 [.ref 60, .int y1, .int y4] p3.2)).bind fun p5 =>
    ((mm_aI (mm_E n xs N d 263 [.ref 60, .int y1, .int y3] p5.2)).bind fun p6 =>
    (if p5.1 ≤ p6.1 then
    (lp_X12_stop n xs N d f 24 [some (.ref 60), some (.int y1), some (.int y2), some (.int y3), some (.int (y4 + (1 : Int32)))] [] p6.2)
    else
    (lp_X12_stop n xs N d f 24 [some (.ref 60), some (.int y1), some (.int y2), some (.int y4), some (.int (y4 + (1 : Int32)))] [] p6.2)))))) := by exact rfl
noncomputable def lp_X12_best (n : Nat) (xs : Nat → Int32) (N d f t : Nat) : mmK := mm_lp (mm_Y n xs) (mm_E n xs N d) cd_X12_best.1 cd_X12_best.2.1 f t
set_option maxRecDepth 40000 in
set_option maxHeartbeats 4000000 in
theorem u_X12_best (n : Nat) (xs : Nat → Int32) (N d : Nat) (M : mmM) (x1 : Int32) : mm_E n xs N (d + 1) 268 [.ref 60, .int x1] M =
  (if (mm_I M 60 26) = 0 then
  some (some (.int (-1 : Int32)), M)
  else
  ((mm_aI (mm_E n xs N d 179 [.int x1, .int (0 : Int32), .int (99 : Int32)] M)).bind fun p1 =>
    (if p1.1 = 0 then
    some (some (.int (-1 : Int32)), p1.2)
    else
    (lp_X12_best n xs N d N 26 [some (.ref 60), some (.int x1), some (.int (-1 : Int32)), some (.int (0 : Int32)), some (.int (0 : Int32)), none] [] p1.2)))) := by exact rfl
set_option maxRecDepth 40000 in
set_option maxHeartbeats 4000000 in
theorem lu_X12_best_26 (n : Nat) (xs : Nat → Int32) (N d f : Nat) (M : mmM) (y1 : Int32) (y2 : Int32) (y3 : Int32) (y4 : Int32) : lp_X12_best n xs N d (f + 1) 26 [some (.ref 60), some (.int y1), some (.int y2), some (.int y3), some (.int y4), none] [] M =
  (if (mm_I M 60 25) ≤ y4 then
  some (some (.int y2), M)
  else
  ((mm_aI (mm_E n xs N d 265 [.ref 60, .int y4, .int y1] M)).bind fun p2 =>
    (if p2.1 = (-1 : Int32) then
    (lp_X12_best n xs N d f 26 [some (.ref 60), some (.int y1), some (.int y2), some (.int y3), some (.int (y4 + (1 : Int32))), none] [] p2.2)
    else
    (if y2 = (-1 : Int32) then
      (lp_X12_best n xs N d f 26 [some (.ref 60), some (.int y1), some (.int y4), some (.int p2.1), some (.int (y4 + (1 : Int32))), none] [] p2.2)
      else
      (if y3 ≤ p2.1 then
        (lp_X12_best n xs N d f 26 [some (.ref 60), some (.int y1), some (.int y2), some (.int y3), some (.int (y4 + (1 : Int32))), none] [] p2.2)
        else
        (lp_X12_best n xs N d f 26 [some (.ref 60), some (.int y1), some (.int y4), some (.int p2.1), some (.int (y4 + (1 : Int32))), none] [] p2.2)))))) := by exact rfl
set_option maxRecDepth 40000 in
set_option maxHeartbeats 4000000 in
theorem u_X12_nextOf (n : Nat) (xs : Nat → Int32) (N d : Nat) (M : mmM) (x1 : Int32) (x2 : Int32) : mm_E n xs N (d + 1) 269 [.ref 60, .int x1, .int x2] M =
  ((mm_aI (mm_E n xs N d 224 [.ref 60, .int x1] M)).bind fun p1 =>
  (if p1.1 ≤ 0 then
  ((mm_aI (mm_E n xs N d 224 [.ref 60, .int x2] p1.2)).bind fun p2 =>
    (if p2.1 ≤ 0 then
    some (some (.int (-1 : Int32)), p2.2)
    else
    some (some (.int x2), p2.2)))
  else
  some (some (.int x1), p1.2))) := by exact rfl
noncomputable def lp_X12_byTurns (n : Nat) (xs : Nat → Int32) (N d f t : Nat) : mmK := mm_lp (mm_Y n xs) (mm_E n xs N d) cd_X12_byTurns.1 cd_X12_byTurns.2.1 f t
set_option maxRecDepth 40000 in
set_option maxHeartbeats 4000000 in
theorem u_X12_byTurns (n : Nat) (xs : Nat → Int32) (N d : Nat) (M : mmM) (x1 : Int32) (x2 : Int32) (x3 : Int32) : mm_E n xs N (d + 1) 270 [.ref 60, .int x1, .int x2, .int x3] M =
  ((mm_aI (mm_E n xs N d 282 [.ref 60, .int x1, .int x2] M)).bind fun p1 =>
  (if p1.1 = 0 then
  some (some (.int (-1 : Int32)), p1.2)
  else
  ((mm_aI (mm_E n xs N d 179 [.int x3, .int (0 : Int32), .int (99 : Int32)] p1.2)).bind fun p2 =>
    (if p2.1 = 0 then
    some (some (.int (-1 : Int32)), p2.2)
    else
    ((mm_aV (mm_E n xs N d 261 [.ref 60, .int (0 : Int32)] p2.2)).bind fun p3 =>
      ((mm_aI (mm_E n xs N d 269 [.ref 60, .int x1, .int x2] p3)).bind fun p4 =>
      (lp_X12_byTurns n xs N d N 37 [some (.ref 60), some (.int x1), some (.int x2), some (.int x3), some (.int (0 : Int32)), some (.int p4.1), none] [] p4.2))))))) := by exact rfl
set_option maxRecDepth 40000 in
set_option maxHeartbeats 4000000 in
theorem lu_X12_byTurns_37 (n : Nat) (xs : Nat → Int32) (N d f : Nat) (M : mmM) (y1 : Int32) (y2 : Int32) (y3 : Int32) (y4 : Int32) (y5 : Int32) : lp_X12_byTurns n xs N d (f + 1) 37 [some (.ref 60), some (.int y1), some (.int y2), some (.int y3), some (.int y4), some (.int y5), none] [] M =
  (if y3 ≤ (mm_I M 77 8) then
    (if (mm_I M 77 8) < y3 then
        ((mm_aV (mm_E n xs N d 262 [.ref 60, .int (0 : Int32)] M)).bind fun p5 =>
          (if (0 : Int32) = 0 then
          some (some (.int (-1 : Int32)), p5)
          else
          some (some (.int y4), p5)))
        else
        ((mm_aV (mm_E n xs N d 262 [.ref 60, .int (0 : Int32)] M)).bind fun p6 =>
          (if (1 : Int32) = 0 then
          some (some (.int (-1 : Int32)), p6)
          else
          some (some (.int y4), p6))))
    else
    (if y5 = (-1 : Int32) then
      (if (mm_I M 77 8) < y3 then
          ((mm_aV (mm_E n xs N d 262 [.ref 60, .int (0 : Int32)] M)).bind fun p7 =>
            (if (0 : Int32) = 0 then
            some (some (.int (-1 : Int32)), p7)
            else
            some (some (.int y4), p7)))
          else
          ((mm_aV (mm_E n xs N d 262 [.ref 60, .int (0 : Int32)] M)).bind fun p8 =>
            (if (1 : Int32) = 0 then
            some (some (.int (-1 : Int32)), p8)
            else
            some (some (.int y4), p8))))
      else
      ((mm_aV (mm_E n xs N d 227 [.ref 60, .int y5] M)).bind fun p9 =>
        (if (2 : Int32) = 0 then none else
        (if ((y4 + (1 : Int32)) - (y4 + (1 : Int32)) / (2 : Int32) * (2 : Int32)) = 0 then
        ((mm_aI (mm_E n xs N d 269 [.ref 60, .int y1, .int y2] p9)).bind fun p10 =>
          (lp_X12_byTurns n xs N d f 37 [some (.ref 60), some (.int y1), some (.int y2), some (.int y3), some (.int (y4 + (1 : Int32))), some (.int p10.1), none] [] p10.2))
        else
        ((mm_aI (mm_E n xs N d 269 [.ref 60, .int y2, .int y1] p9)).bind fun p11 =>
          (lp_X12_byTurns n xs N d f 37 [some (.ref 60), some (.int y1), some (.int y2), some (.int y3), some (.int (y4 + (1 : Int32))), some (.int p11.1), none] [] p11.2))))))) := by exact rfl
noncomputable def lp_X12_tryRow (n : Nat) (xs : Nat → Int32) (N d f t : Nat) : mmK := mm_lp (mm_Y n xs) (mm_E n xs N d) cd_X12_tryRow.1 cd_X12_tryRow.2.1 f t
set_option maxRecDepth 40000 in
set_option maxHeartbeats 4000000 in
theorem u_X12_tryRow (n : Nat) (xs : Nat → Int32) (N d : Nat) (M : mmM) (x1 : Int32) (x2 : Int32) (x3 : Int32) : mm_E n xs N (d + 1) 271 [.ref 60, .int x1, .int x2, .int x3] M =
  (if x3 ≤ (mm_I M 60 36) then
  (if x3 = (mm_I M 60 36) then
    (if 0 < ((mm_I M 77 8) - (mm_I M 60 37)) then
        (if (1 : Int32) = 0 then
          ((mm_aV (mm_E n xs N d 261 [.ref 60, .int x1] M)).bind fun p1 =>
            (lp_X12_tryRow n xs N d N 117 [some (.ref 60), some (.int x1), some (.int x2), some (.int x3), none, some (.int (0 : Int32))] [] p1))
          else
          ((mm_aV (mm_E n xs N d 261 [.ref 60, .int x1] (mm_wI (mm_wI (mm_wI (mm_wI M 60 35 x2) 60 36 x3) 60 37 (mm_I M 77 8)) 60 38 x1))).bind fun p2 =>
              (lp_X12_tryRow n xs N d N 117 [some (.ref 60), some (.int x1), some (.int x2), some (.int x3), none, some (.int (0 : Int32))] [] p2)))
        else
        (if ((mm_I M 77 8) - (mm_I M 60 37)) = 0 then
          (if x1 < (mm_I M 60 38) then
            (if (1 : Int32) = 0 then
              ((mm_aV (mm_E n xs N d 261 [.ref 60, .int x1] M)).bind fun p3 =>
                (lp_X12_tryRow n xs N d N 117 [some (.ref 60), some (.int x1), some (.int x2), some (.int x3), none, some (.int (0 : Int32))] [] p3))
              else
              ((mm_aV (mm_E n xs N d 261 [.ref 60, .int x1] (mm_wI (mm_wI (mm_wI (mm_wI M 60 35 x2) 60 36 x3) 60 37 (mm_I M 77 8)) 60 38 x1))).bind fun p4 =>
                  (lp_X12_tryRow n xs N d N 117 [some (.ref 60), some (.int x1), some (.int x2), some (.int x3), none, some (.int (0 : Int32))] [] p4)))
            else
            (if x1 = (mm_I M 60 38) then
              (if (mm_I M 60 35) ≤ x2 then
                (if (0 : Int32) = 0 then
                  ((mm_aV (mm_E n xs N d 261 [.ref 60, .int x1] M)).bind fun p5 =>
                    (lp_X12_tryRow n xs N d N 117 [some (.ref 60), some (.int x1), some (.int x2), some (.int x3), none, some (.int (0 : Int32))] [] p5))
                  else
                  ((mm_aV (mm_E n xs N d 261 [.ref 60, .int x1] (mm_wI (mm_wI (mm_wI (mm_wI M 60 35 x2) 60 36 x3) 60 37 (mm_I M 77 8)) 60 38 x1))).bind fun p6 =>
                      (lp_X12_tryRow n xs N d N 117 [some (.ref 60), some (.int x1), some (.int x2), some (.int x3), none, some (.int (0 : Int32))] [] p6)))
                else
                (if (1 : Int32) = 0 then
                  ((mm_aV (mm_E n xs N d 261 [.ref 60, .int x1] M)).bind fun p7 =>
                    (lp_X12_tryRow n xs N d N 117 [some (.ref 60), some (.int x1), some (.int x2), some (.int x3), none, some (.int (0 : Int32))] [] p7))
                  else
                  ((mm_aV (mm_E n xs N d 261 [.ref 60, .int x1] (mm_wI (mm_wI (mm_wI (mm_wI M 60 35 x2) 60 36 x3) 60 37 (mm_I M 77 8)) 60 38 x1))).bind fun p8 =>
                      (lp_X12_tryRow n xs N d N 117 [some (.ref 60), some (.int x1), some (.int x2), some (.int x3), none, some (.int (0 : Int32))] [] p8))))
              else
              (if (0 : Int32) = 0 then
                ((mm_aV (mm_E n xs N d 261 [.ref 60, .int x1] M)).bind fun p9 =>
                  (lp_X12_tryRow n xs N d N 117 [some (.ref 60), some (.int x1), some (.int x2), some (.int x3), none, some (.int (0 : Int32))] [] p9))
                else
                ((mm_aV (mm_E n xs N d 261 [.ref 60, .int x1] (mm_wI (mm_wI (mm_wI (mm_wI M 60 35 x2) 60 36 x3) 60 37 (mm_I M 77 8)) 60 38 x1))).bind fun p10 =>
                    (lp_X12_tryRow n xs N d N 117 [some (.ref 60), some (.int x1), some (.int x2), some (.int x3), none, some (.int (0 : Int32))] [] p10)))))
          else
          (if (0 : Int32) = 0 then
            ((mm_aV (mm_E n xs N d 261 [.ref 60, .int x1] M)).bind fun p11 =>
              (lp_X12_tryRow n xs N d N 117 [some (.ref 60), some (.int x1), some (.int x2), some (.int x3), none, some (.int (0 : Int32))] [] p11))
            else
            ((mm_aV (mm_E n xs N d 261 [.ref 60, .int x1] (mm_wI (mm_wI (mm_wI (mm_wI M 60 35 x2) 60 36 x3) 60 37 (mm_I M 77 8)) 60 38 x1))).bind fun p12 =>
                (lp_X12_tryRow n xs N d N 117 [some (.ref 60), some (.int x1), some (.int x2), some (.int x3), none, some (.int (0 : Int32))] [] p12)))))
    else
    (if (0 : Int32) = 0 then
      ((mm_aV (mm_E n xs N d 261 [.ref 60, .int x1] M)).bind fun p13 =>
        (lp_X12_tryRow n xs N d N 117 [some (.ref 60), some (.int x1), some (.int x2), some (.int x3), none, some (.int (0 : Int32))] [] p13))
      else
      ((mm_aV (mm_E n xs N d 261 [.ref 60, .int x1] (mm_wI (mm_wI (mm_wI (mm_wI M 60 35 x2) 60 36 x3) 60 37 (mm_I M 77 8)) 60 38 x1))).bind fun p14 =>
          (lp_X12_tryRow n xs N d N 117 [some (.ref 60), some (.int x1), some (.int x2), some (.int x3), none, some (.int (0 : Int32))] [] p14))))
  else
  (if x3 = (mm_I M 60 36) then
    (if 0 < ((mm_I M 77 8) - (mm_I M 60 37)) then
        (if (1 : Int32) = 0 then
          ((mm_aV (mm_E n xs N d 261 [.ref 60, .int x1] M)).bind fun p15 =>
            (lp_X12_tryRow n xs N d N 117 [some (.ref 60), some (.int x1), some (.int x2), some (.int x3), none, some (.int (0 : Int32))] [] p15))
          else
          ((mm_aV (mm_E n xs N d 261 [.ref 60, .int x1] (mm_wI (mm_wI (mm_wI (mm_wI M 60 35 x2) 60 36 x3) 60 37 (mm_I M 77 8)) 60 38 x1))).bind fun p16 =>
              (lp_X12_tryRow n xs N d N 117 [some (.ref 60), some (.int x1), some (.int x2), some (.int x3), none, some (.int (0 : Int32))] [] p16)))
        else
        (if ((mm_I M 77 8) - (mm_I M 60 37)) = 0 then
          (if x1 < (mm_I M 60 38) then
            (if (1 : Int32) = 0 then
              ((mm_aV (mm_E n xs N d 261 [.ref 60, .int x1] M)).bind fun p17 =>
                (lp_X12_tryRow n xs N d N 117 [some (.ref 60), some (.int x1), some (.int x2), some (.int x3), none, some (.int (0 : Int32))] [] p17))
              else
              ((mm_aV (mm_E n xs N d 261 [.ref 60, .int x1] (mm_wI (mm_wI (mm_wI (mm_wI M 60 35 x2) 60 36 x3) 60 37 (mm_I M 77 8)) 60 38 x1))).bind fun p18 =>
                  (lp_X12_tryRow n xs N d N 117 [some (.ref 60), some (.int x1), some (.int x2), some (.int x3), none, some (.int (0 : Int32))] [] p18)))
            else
            (if x1 = (mm_I M 60 38) then
              (if (mm_I M 60 35) ≤ x2 then
                (if (0 : Int32) = 0 then
                  ((mm_aV (mm_E n xs N d 261 [.ref 60, .int x1] M)).bind fun p19 =>
                    (lp_X12_tryRow n xs N d N 117 [some (.ref 60), some (.int x1), some (.int x2), some (.int x3), none, some (.int (0 : Int32))] [] p19))
                  else
                  ((mm_aV (mm_E n xs N d 261 [.ref 60, .int x1] (mm_wI (mm_wI (mm_wI (mm_wI M 60 35 x2) 60 36 x3) 60 37 (mm_I M 77 8)) 60 38 x1))).bind fun p20 =>
                      (lp_X12_tryRow n xs N d N 117 [some (.ref 60), some (.int x1), some (.int x2), some (.int x3), none, some (.int (0 : Int32))] [] p20)))
                else
                (if (1 : Int32) = 0 then
                  ((mm_aV (mm_E n xs N d 261 [.ref 60, .int x1] M)).bind fun p21 =>
                    (lp_X12_tryRow n xs N d N 117 [some (.ref 60), some (.int x1), some (.int x2), some (.int x3), none, some (.int (0 : Int32))] [] p21))
                  else
                  ((mm_aV (mm_E n xs N d 261 [.ref 60, .int x1] (mm_wI (mm_wI (mm_wI (mm_wI M 60 35 x2) 60 36 x3) 60 37 (mm_I M 77 8)) 60 38 x1))).bind fun p22 =>
                      (lp_X12_tryRow n xs N d N 117 [some (.ref 60), some (.int x1), some (.int x2), some (.int x3), none, some (.int (0 : Int32))] [] p22))))
              else
              (if (0 : Int32) = 0 then
                ((mm_aV (mm_E n xs N d 261 [.ref 60, .int x1] M)).bind fun p23 =>
                  (lp_X12_tryRow n xs N d N 117 [some (.ref 60), some (.int x1), some (.int x2), some (.int x3), none, some (.int (0 : Int32))] [] p23))
                else
                ((mm_aV (mm_E n xs N d 261 [.ref 60, .int x1] (mm_wI (mm_wI (mm_wI (mm_wI M 60 35 x2) 60 36 x3) 60 37 (mm_I M 77 8)) 60 38 x1))).bind fun p24 =>
                    (lp_X12_tryRow n xs N d N 117 [some (.ref 60), some (.int x1), some (.int x2), some (.int x3), none, some (.int (0 : Int32))] [] p24)))))
          else
          (if (0 : Int32) = 0 then
            ((mm_aV (mm_E n xs N d 261 [.ref 60, .int x1] M)).bind fun p25 =>
              (lp_X12_tryRow n xs N d N 117 [some (.ref 60), some (.int x1), some (.int x2), some (.int x3), none, some (.int (0 : Int32))] [] p25))
            else
            ((mm_aV (mm_E n xs N d 261 [.ref 60, .int x1] (mm_wI (mm_wI (mm_wI (mm_wI M 60 35 x2) 60 36 x3) 60 37 (mm_I M 77 8)) 60 38 x1))).bind fun p26 =>
                (lp_X12_tryRow n xs N d N 117 [some (.ref 60), some (.int x1), some (.int x2), some (.int x3), none, some (.int (0 : Int32))] [] p26)))))
    else
    (if (1 : Int32) = 0 then
      ((mm_aV (mm_E n xs N d 261 [.ref 60, .int x1] M)).bind fun p27 =>
        (lp_X12_tryRow n xs N d N 117 [some (.ref 60), some (.int x1), some (.int x2), some (.int x3), none, some (.int (0 : Int32))] [] p27))
      else
      ((mm_aV (mm_E n xs N d 261 [.ref 60, .int x1] (mm_wI (mm_wI (mm_wI (mm_wI M 60 35 x2) 60 36 x3) 60 37 (mm_I M 77 8)) 60 38 x1))).bind fun p28 =>
          (lp_X12_tryRow n xs N d N 117 [some (.ref 60), some (.int x1), some (.int x2), some (.int x3), none, some (.int (0 : Int32))] [] p28))))) := by exact rfl
set_option maxRecDepth 40000 in
set_option maxHeartbeats 4000000 in
theorem lu_X12_tryRow_117 (n : Nat) (xs : Nat → Int32) (N d f : Nat) (M : mmM) (y1 : Int32) (y2 : Int32) (y3 : Int32) (y5 : Int32) : lp_X12_tryRow n xs N d (f + 1) 117 [some (.ref 60), some (.int y1), some (.int y2), some (.int y3), none, some (.int y5)] [] M =
  (if (mm_I M 60 26) ≤ y5 then
  some (none, M)
  else
  ((mm_aI (mm_E n xs N d 235 [.ref 60, .int y5] M)).bind fun p29 =>
    (if p29.1 = 0 then
    (lp_X12_tryRow n xs N d f 117 [some (.ref 60), some (.int y1), some (.int y2), some (.int y3), none, some (.int (y5 + (1 : Int32)))] [] p29.2)
    else
    ((mm_aV (mm_E n xs N d 236 [.ref 60, .int y5] p29.2)).bind fun p30 =>
      ((mm_aI (mm_E n xs N d 221 [.ref 60, .int y5, .int (1 : Int32)] p30)).bind fun p31 =>
      ((mm_aV (mm_E n xs N d 271 [.ref 60, .int (y1 + (1 : Int32)), .int (((10 : Int32) * y2) + y5), .int (y3 + p31.1)] p31.2)).bind fun p32 =>
      ((mm_aV (mm_E n xs N d 262 [.ref 60, .int y1] p32)).bind fun p33 =>
      (lp_X12_tryRow n xs N d f 117 [some (.ref 60), some (.int y1), some (.int y2), some (.int y3), none, some (.int (y5 + (1 : Int32)))] [] p33)))))))) := by exact rfl
set_option maxRecDepth 40000 in
set_option maxHeartbeats 4000000 in
theorem u_X12_row (n : Nat) (xs : Nat → Int32) (N d : Nat) (M : mmM) (x1 : Int32) : mm_E n xs N (d + 1) 272 [.ref 60, .int x1] M =
  (if (mm_I M 60 26) = 0 then
  some (some (.int (-1 : Int32)), M)
  else
  ((mm_aI (mm_E n xs N d 179 [.int x1, .int (0 : Int32), .int (2 : Int32)] M)).bind fun p1 =>
    (if p1.1 = 0 then
    some (some (.int (-1 : Int32)), p1.2)
    else
    ((mm_aV (mm_E n xs N d 271 [.ref 60, .int (0 : Int32), .int (0 : Int32), .int (0 : Int32)] (mm_wI p1.2 60 36 (-1 : Int32)))).bind fun p2 =>
      (if x1 = 0 then
      (if (mm_I p2 60 38) = 0 then
        some (some (.int (-1 : Int32)), p2)
        else
        some (some (.int (mm_I p2 60 35)), p2))
      else
      (if x1 = (1 : Int32) then
        some (some (.int (mm_I p2 60 36)), p2)
        else
        some (some (.int (mm_I p2 60 37)), p2))))))) := by exact rfl
noncomputable def lp_X12_lasts (n : Nat) (xs : Nat → Int32) (N d f t : Nat) : mmK := mm_lp (mm_Y n xs) (mm_E n xs N d) cd_X12_lasts.1 cd_X12_lasts.2.1 f t
set_option maxRecDepth 40000 in
set_option maxHeartbeats 4000000 in
theorem u_X12_lasts (n : Nat) (xs : Nat → Int32) (N d : Nat) (M : mmM)  : mm_E n xs N (d + 1) 273 [.ref 60] M =
  (if (mm_I M 60 26) = 0 then
  some (some (.int (-1 : Int32)), M)
  else
  ((mm_aV (mm_E n xs N d 261 [.ref 60, .int (0 : Int32)] M)).bind fun p1 =>
    (lp_X12_lasts n xs N d N 16 [some (.ref 60), some (.int (0 : Int32)), none] [] p1))) := by exact rfl
set_option maxRecDepth 40000 in
set_option maxHeartbeats 4000000 in
theorem lu_X12_lasts_16 (n : Nat) (xs : Nat → Int32) (N d f : Nat) (M : mmM) (y1 : Int32) : lp_X12_lasts n xs N d (f + 1) 16 [some (.ref 60), some (.int y1), none] [] M =
  (if (60 : Int32) ≤ y1 then
  (if (mm_I M 77 8) = 0 then
      ((mm_aV (mm_E n xs N d 262 [.ref 60, .int (0 : Int32)] M)).bind fun p2 =>
        (if (1 : Int32) = 0 then
        some (some (.int (-1 : Int32)), p2)
        else
        some (some (.int y1), p2)))
      else
      ((mm_aV (mm_E n xs N d 262 [.ref 60, .int (0 : Int32)] M)).bind fun p3 =>
        (if (0 : Int32) = 0 then
        some (some (.int (-1 : Int32)), p3)
        else
        some (some (.int y1), p3))))
  else
  (if (mm_I M 77 8) ≤ 0 then
      (if (mm_I M 77 8) = 0 then
          ((mm_aV (mm_E n xs N d 262 [.ref 60, .int (0 : Int32)] M)).bind fun p4 =>
            (if (1 : Int32) = 0 then
            some (some (.int (-1 : Int32)), p4)
            else
            some (some (.int y1), p4)))
          else
          ((mm_aV (mm_E n xs N d 262 [.ref 60, .int (0 : Int32)] M)).bind fun p5 =>
            (if (0 : Int32) = 0 then
            some (some (.int (-1 : Int32)), p5)
            else
            some (some (.int y1), p5))))
      else
      ((mm_aV (mm_E n xs N d 234 [.ref 60] M)).bind fun p6 =>
        (lp_X12_lasts n xs N d f 16 [some (.ref 60), some (.int (y1 + (1 : Int32))), none] [] p6)))) := by exact rfl
noncomputable def lp_X12_isUp (n : Nat) (xs : Nat → Int32) (N d f t : Nat) : mmK := mm_lp (mm_Y n xs) (mm_E n xs N d) cd_X12_isUp.1 cd_X12_isUp.2.1 f t
set_option maxRecDepth 40000 in
set_option maxHeartbeats 4000000 in
theorem u_X12_isUp (n : Nat) (xs : Nat → Int32) (N d : Nat) (M : mmM) (x1 : Int32) (x2 : Int32) : mm_E n xs N (d + 1) 274 [.ref 60, .int x1, .int x2] M =
  ((mm_aV (mm_E n xs N d 261 [.ref 60, .int (0 : Int32)] M)).bind fun p1 =>
  (lp_X12_isUp n xs N d N 15 [some (.ref 60), none, some (.int x2), some (.int (0 : Int32))] [] (mm_wI p1 77 8 x1))) := by exact rfl
set_option maxRecDepth 40000 in
set_option maxHeartbeats 4000000 in
theorem lu_X12_isUp_15 (n : Nat) (xs : Nat → Int32) (N d f : Nat) (M : mmM) (y2 : Int32) (y3 : Int32) : lp_X12_isUp n xs N d (f + 1) 15 [some (.ref 60), none, some (.int y2), some (.int y3)] [] M =
  (if y2 ≤ y3 then
  (if (mm_I M 77 8) ≤ 0 then
      ((mm_aV (mm_E n xs N d 262 [.ref 60, .int (0 : Int32)] M)).bind fun p2 =>
        some (some (.int (0 : Int32)), p2))
      else
      ((mm_aV (mm_E n xs N d 262 [.ref 60, .int (0 : Int32)] M)).bind fun p3 =>
        some (some (.int (1 : Int32)), p3)))
  else
  ((mm_aV (mm_E n xs N d 234 [.ref 60] M)).bind fun p4 =>
    (lp_X12_isUp n xs N d f 15 [some (.ref 60), none, some (.int y2), some (.int (y3 + (1 : Int32)))] [] p4))) := by exact rfl
noncomputable def lp_X12_holds (n : Nat) (xs : Nat → Int32) (N d f t : Nat) : mmK := mm_lp (mm_Y n xs) (mm_E n xs N d) cd_X12_holds.1 cd_X12_holds.2.1 f t
set_option maxRecDepth 40000 in
set_option maxHeartbeats 4000000 in
theorem u_X12_holds (n : Nat) (xs : Nat → Int32) (N d : Nat) (M : mmM) (x1 : Int32) : mm_E n xs N (d + 1) 275 [.ref 60, .int x1] M =
  (if (mm_I M 60 26) = 0 then
  some (some (.int (-1 : Int32)), M)
  else
  ((mm_aI (mm_E n xs N d 179 [.int x1, .int (0 : Int32), .int (20 : Int32)] M)).bind fun p1 =>
    (if p1.1 = 0 then
    some (some (.int (-1 : Int32)), p1.2)
    else
    (lp_X12_holds n xs N d N 21 [some (.ref 60), some (.int x1), some (.int (0 : Int32))] [] p1.2)))) := by exact rfl
set_option maxRecDepth 40000 in
set_option maxHeartbeats 4000000 in
theorem lu_X12_holds_21 (n : Nat) (xs : Nat → Int32) (N d f : Nat) (M : mmM) (y1 : Int32) (y2 : Int32) : lp_X12_holds n xs N d (f + 1) 21 [some (.ref 60), some (.int y1), some (.int y2)] [] M =
  (if (99 : Int32) < y2 then
  some (some (.int (-1 : Int32)), M)
  else
  ((mm_aI (mm_E n xs N d 274 [.ref 60, .int y2, .int y1] M)).bind fun p2 =>
    (if p2.1 = 0 then
    (lp_X12_holds n xs N d f 21 [some (.ref 60), some (.int y1), some (.int (y2 + (1 : Int32)))] [] p2.2)
    else
    some (some (.int y2), p2.2)))) := by exact rfl
set_option maxRecDepth 40000 in
set_option maxHeartbeats 4000000 in
theorem u_X12_seen (n : Nat) (xs : Nat → Int32) (N d : Nat) (M : mmM) (x1 : Int32) (x2 : Int32) (x3 : Int32) (x4 : Int32) : mm_E n xs N (d + 1) 276 [.ref 60, .int x1, .int x2, .int x3, .int x4] M =
  ((mm_aI (mm_E n xs N d 222 [.ref 60, .int x1] M)).bind fun p1 =>
  (if p1.1 = 0 then
  some (some (.int (-1 : Int32)), p1.2)
  else
  ((mm_aI (mm_E n xs N d 179 [.int x2, .int (1 : Int32), .int (40 : Int32)] p1.2)).bind fun p2 =>
    (if p2.1 = 0 then
    some (some (.int (-1 : Int32)), p2.2)
    else
    ((mm_aI (mm_E n xs N d 179 [.int x3, .int (0 : Int32), .int (99 : Int32)] p2.2)).bind fun p3 =>
      (if p3.1 = 0 then
      some (some (.int (-1 : Int32)), p3.2)
      else
      (if (mm_I p3.2 60 43) = (10 : Int32) then
        some (some (.int (-1 : Int32)), p3.2)
        else
        (cond (mm_inb (mm_I p3.2 60 43) 10 && Nat.ble 16 81)
          (cond (mm_inb (mm_I p3.2 60 43) 10 && Nat.ble 16 82)
            (cond (mm_inb (mm_I p3.2 60 43) 10 && Nat.ble 16 83)
              (cond (mm_inb (mm_I p3.2 60 43) 10 && Nat.ble 16 84)
                (some (some (.int ((mm_I p3.2 60 43) + (1 : Int32))), (mm_wI (mm_wI (mm_wI (mm_wI (mm_wI p3.2 81 ((mm_I p3.2 60 43).toNatClampNeg) x1) 82 ((mm_I p3.2 60 43).toNatClampNeg) x2) 83 ((mm_I p3.2 60 43).toNatClampNeg) x3) 84 ((mm_I p3.2 60 43).toNatClampNeg) (vp_nar .boolean x4)) 60 43 ((mm_I p3.2 60 43) + (1 : Int32))))) none) none) none) none)))))))) := by exact rfl
noncomputable def lp_X12_morning (n : Nat) (xs : Nat → Int32) (N d f t : Nat) : mmK := mm_lp (mm_Y n xs) (mm_E n xs N d) cd_X12_morning.1 cd_X12_morning.2.1 f t
set_option maxRecDepth 40000 in
set_option maxHeartbeats 4000000 in
theorem u_X12_morning (n : Nat) (xs : Nat → Int32) (N d : Nat) (M : mmM) (x1 : Int32) (x2 : Int32) (x3 : Int32) : mm_E n xs N (d + 1) 277 [.ref 60, .int x1, .int x2, .int x3] M =
  (lp_X12_morning n xs N d N 6 [some (.ref 60), some (.int x1), some (.int x2), some (.int x3), some (.int (0 : Int32)), some (.int (0 : Int32))] [] M) := by exact rfl
set_option maxRecDepth 40000 in
set_option maxHeartbeats 4000000 in
theorem lu_X12_morning_6 (n : Nat) (xs : Nat → Int32) (N d f : Nat) (M : mmM) (y1 : Int32) (y2 : Int32) (y3 : Int32) (y4 : Int32) (y5 : Int32) : lp_X12_morning n xs N d (f + 1) 6 [some (.ref 60), some (.int y1), some (.int y2), some (.int y3), some (.int y4), some (.int y5)] [] M =
  (if y2 ≤ y5 then
  some (some (.int y4), M)
  else
  (cond (mm_inb ((0 : Int32) + y1) 198)
    ((mm_aI (mm_E n xs N d 226 [.ref 60, .int (mm_I M 77 (((0 : Int32) + y1).toNatClampNeg)), .int y4, .int y5, .int y3] M)).bind fun p1 =>
      (lp_X12_morning n xs N d f 6 [some (.ref 60), some (.int y1), some (.int y2), some (.int y3), some (.int p1.1), some (.int (y5 + (1 : Int32)))] [] p1.2)) none)) := by exact rfl
noncomputable def lp_X12_isYolk (n : Nat) (xs : Nat → Int32) (N d f t : Nat) : mmK := mm_lp (mm_Y n xs) (mm_E n xs N d) cd_X12_isYolk.1 cd_X12_isYolk.2.1 f t
set_option maxRecDepth 40000 in
set_option maxHeartbeats 4000000 in
theorem u_X12_isYolk (n : Nat) (xs : Nat → Int32) (N d : Nat) (M : mmM) (x1 : Int32) : mm_E n xs N (d + 1) 278 [.ref 60, .int x1] M =
  (lp_X12_isYolk n xs N d N 2 [some (.ref 60), some (.int x1), some (.int (0 : Int32))] [] M) := by exact rfl
set_option maxRecDepth 40000 in
set_option maxHeartbeats 4000000 in
theorem lu_X12_isYolk_2 (n : Nat) (xs : Nat → Int32) (N d f : Nat) (M : mmM) (y1 : Int32) (y2 : Int32) : lp_X12_isYolk n xs N d (f + 1) 2 [some (.ref 60), some (.int y1), some (.int y2)] [] M =
  (if (mm_I M 60 43) ≤ y2 then
  some (some (.int (1 : Int32)), M)
  else
  (cond (mm_inb y2 10)
    (cond (mm_inb y2 10)
      ((mm_aI (mm_E n xs N d 277 [.ref 60, .int (mm_I M 81 y2.toNatClampNeg), .int (mm_I M 82 y2.toNatClampNeg), .int y1] M)).bind fun p1 =>
        (cond (mm_inb y2 10)
        (if p1.1 < (mm_I p1.2 83 y2.toNatClampNeg) then
          (cond (mm_inb y2 10)
            (if (0 : Int32) = (mm_I p1.2 84 y2.toNatClampNeg) then
              (lp_X12_isYolk n xs N d f 2 [some (.ref 60), some (.int y1), some (.int (y2 + (1 : Int32)))] [] p1.2)
              else
              some (some (.int (0 : Int32)), p1.2)) none)
          else
          (cond (mm_inb y2 10)
            (if (1 : Int32) = (mm_I p1.2 84 y2.toNatClampNeg) then
              (lp_X12_isYolk n xs N d f 2 [some (.ref 60), some (.int y1), some (.int (y2 + (1 : Int32)))] [] p1.2)
              else
              some (some (.int (0 : Int32)), p1.2)) none)) none)) none) none)) := by exact rfl
noncomputable def lp_X12_fits (n : Nat) (xs : Nat → Int32) (N d f t : Nat) : mmK := mm_lp (mm_Y n xs) (mm_E n xs N d) cd_X12_fits.1 cd_X12_fits.2.1 f t
set_option maxRecDepth 40000 in
set_option maxHeartbeats 4000000 in
theorem u_X12_fits (n : Nat) (xs : Nat → Int32) (N d : Nat) (M : mmM) (x1 : Int32) : mm_E n xs N (d + 1) 279 [.ref 60, .int x1] M =
  (if (mm_I M 60 26) = 0 then
  some (some (.int (-1 : Int32)), M)
  else
  (if (-1 : Int32) ≤ x1 then
    (lp_X12_fits n xs N d N 18 [some (.ref 60), some (.int x1), some (.int (0 : Int32)), some (.int (0 : Int32))] [] M)
    else
    some (some (.int (-1 : Int32)), M))) := by exact rfl
set_option maxRecDepth 40000 in
set_option maxHeartbeats 4000000 in
theorem lu_X12_fits_18 (n : Nat) (xs : Nat → Int32) (N d f : Nat) (M : mmM) (y1 : Int32) (y2 : Int32) (y3 : Int32) : lp_X12_fits n xs N d (f + 1) 18 [some (.ref 60), some (.int y1), some (.int y2), some (.int y3)] [] M =
  (if (9 : Int32) < y3 then
  (if y1 = (-1 : Int32) then
    some (some (.int y2), M)
    else
    some (some (.int (-1 : Int32)), M))
  else
  ((mm_aI (mm_E n xs N d 278 [.ref 60, .int y3] M)).bind fun p1 =>
    (if p1.1 = 0 then
    (lp_X12_fits n xs N d f 18 [some (.ref 60), some (.int y1), some (.int y2), some (.int (y3 + (1 : Int32)))] [] p1.2)
    else
    (if y2 = y1 then
      some (some (.int y3), p1.2)
      else
      (lp_X12_fits n xs N d f 18 [some (.ref 60), some (.int y1), some (.int (y2 + (1 : Int32))), some (.int (y3 + (1 : Int32)))] [] p1.2))))) := by exact rfl
noncomputable def lp_X12_probe (n : Nat) (xs : Nat → Int32) (N d f t : Nat) : mmK := mm_lp (mm_Y n xs) (mm_E n xs N d) cd_X12_probe.1 cd_X12_probe.2.1 f t
set_option maxRecDepth 40000 in
set_option maxHeartbeats 4000000 in
theorem u_X12_probe (n : Nat) (xs : Nat → Int32) (N d : Nat) (M : mmM) (x1 : Int32) (x2 : Int32) : mm_E n xs N (d + 1) 280 [.ref 60, .int x1, .int x2] M =
  ((mm_aI (mm_E n xs N d 222 [.ref 60, .int x1] M)).bind fun p1 =>
  (if p1.1 = 0 then
  some (some (.int (-1 : Int32)), p1.2)
  else
  ((mm_aI (mm_E n xs N d 179 [.int x2, .int (0 : Int32), .int (99 : Int32)] p1.2)).bind fun p2 =>
    (if p2.1 = 0 then
    some (some (.int (-1 : Int32)), p2.2)
    else
    ((mm_aI (mm_E n xs N d 279 [.ref 60, .int (0 : Int32)] p2.2)).bind fun p3 =>
      (if p3.1 = (-1 : Int32) then
      some (some (.int (-1 : Int32)), p3.2)
      else
      (lp_X12_probe n xs N d N 34 [some (.ref 60), some (.int x1), some (.int x2), some (.int (0 : Int32)), some (.int (0 : Int32)), none, none, none, none] [] p3.2))))))) := by exact rfl
set_option maxRecDepth 40000 in
set_option maxHeartbeats 4000000 in
theorem lu_X12_probe_34 (n : Nat) (xs : Nat → Int32) (N d f : Nat) (M : mmM) (y1 : Int32) (y2 : Int32) (y3 : Int32) (y4 : Int32) : lp_X12_probe n xs N d (f + 1) 34 [some (.ref 60), some (.int y1), some (.int y2), some (.int y3), some (.int y4), none, none, none, none] [] M =
  (if (9 : Int32) < y4 then
  (lp_X12_probe n xs N d f 76 [some (.ref 60), some (.int y1), some (.int y2), some (.int y3), some (.int (-1 : Int32)), some (.int (0 : Int32)), some (.int (1 : Int32)), none, none] [] M)
  else
  ((mm_aI (mm_E n xs N d 278 [.ref 60, .int y4] M)).bind fun p4 =>
    (if p4.1 = 0 then
    (lp_X12_probe n xs N d f 34 [some (.ref 60), some (.int y1), some (.int y2), some (.int (y3 ||| (0 : Int32))), some (.int (y4 + (1 : Int32))), none, none, none, none] [] p4.2)
    else
    (lp_X12_probe n xs N d f 34 [some (.ref 60), some (.int y1), some (.int y2), some (.int (y3 ||| ((1 : Int32) <<< (y4 &&& 31)))), some (.int (y4 + (1 : Int32))), none, none, none, none] [] p4.2)))) := by exact rfl
set_option maxRecDepth 40000 in
set_option maxHeartbeats 4000000 in
theorem lu_X12_probe_76 (n : Nat) (xs : Nat → Int32) (N d f : Nat) (M : mmM) (y1 : Int32) (y2 : Int32) (y3 : Int32) (y4 : Int32) (y5 : Int32) (y6 : Int32) : lp_X12_probe n xs N d (f + 1) 76 [some (.ref 60), some (.int y1), some (.int y2), some (.int y3), some (.int y4), some (.int y5), some (.int y6), none, none] [] M =
  (if (40 : Int32) < y6 then
  some (some (.int y4), M)
  else
  (lp_X12_probe n xs N d f 89 [some (.ref 60), some (.int y1), some (.int y2), some (.int y3), some (.int y4), some (.int y5), some (.int y6), some (.int (0 : Int32)), some (.int (0 : Int32))] [] M)) := by exact rfl
set_option maxRecDepth 40000 in
set_option maxHeartbeats 4000000 in
theorem lu_X12_probe_89 (n : Nat) (xs : Nat → Int32) (N d f : Nat) (M : mmM) (y1 : Int32) (y2 : Int32) (y3 : Int32) (y4 : Int32) (y5 : Int32) (y6 : Int32) (y7 : Int32) (y8 : Int32) : lp_X12_probe n xs N d (f + 1) 89 [some (.ref 60), some (.int y1), some (.int y2), some (.int y3), some (.int y4), some (.int y5), some (.int y6), some (.int y7), some (.int y8)] [] M =
  (if (9 : Int32) < y8 then
  (if y4 = (-1 : Int32) then
    ((mm_aI (mm_E n xs N d 301 [.int y7] M)).bind fun p5 =>
      (lp_X12_probe n xs N d f 76 [some (.ref 60), some (.int y1), some (.int y2), some (.int y3), some (.int y6), some (.int p5.1), some (.int (y6 + (1 : Int32))), none, none] [] p5.2))
    else
    ((mm_aI (mm_E n xs N d 301 [.int y7] M)).bind fun p6 =>
      (if y5 ≤ p6.1 then
      (lp_X12_probe n xs N d f 76 [some (.ref 60), some (.int y1), some (.int y2), some (.int y3), some (.int y4), some (.int y5), some (.int (y6 + (1 : Int32))), none, none] [] p6.2)
      else
      ((mm_aI (mm_E n xs N d 301 [.int y7] p6.2)).bind fun p7 =>
        (lp_X12_probe n xs N d f 76 [some (.ref 60), some (.int y1), some (.int y2), some (.int y3), some (.int y6), some (.int p7.1), some (.int (y6 + (1 : Int32))), none, none] [] p7.2)))))
  else
  ((mm_aI (mm_E n xs N d 180 [.int y3, .int y8] M)).bind fun p8 =>
    (if p8.1 = 0 then
    (lp_X12_probe n xs N d f 89 [some (.ref 60), some (.int y1), some (.int y2), some (.int y3), some (.int y4), some (.int y5), some (.int y6), some (.int (y7 + (0 : Int32))), some (.int (y8 + (1 : Int32)))] [] p8.2)
    else
    ((mm_aI (mm_E n xs N d 277 [.ref 60, .int y1, .int y6, .int y8] p8.2)).bind fun p9 =>
      (if p9.1 < y2 then
      (lp_X12_probe n xs N d f 89 [some (.ref 60), some (.int y1), some (.int y2), some (.int y3), some (.int y4), some (.int y5), some (.int y6), some (.int (y7 + (-1 : Int32))), some (.int (y8 + (1 : Int32)))] [] p9.2)
      else
      (lp_X12_probe n xs N d f 89 [some (.ref 60), some (.int y1), some (.int y2), some (.int y3), some (.int y4), some (.int y5), some (.int y6), some (.int (y7 + (1 : Int32))), some (.int (y8 + (1 : Int32)))] [] p9.2)))))) := by exact rfl
set_option maxRecDepth 40000 in
set_option maxHeartbeats 4000000 in
theorem u_X12_gameOf (n : Nat) (xs : Nat → Int32) (N d : Nat) (M : mmM) (x1 : Int32) (x2 : Int32) (x3 : Int32) (x4 : Int32) (x5 : Int32) : mm_E n xs N (d + 1) 281 [.ref 60, .int x1, .int x2, .int x3, .int x4, .int x5] M =
  ((mm_aV (mm_E n xs N d 261 [.ref 60, .int (0 : Int32)] M)).bind fun p1 =>
  ((mm_aV (mm_E n xs N d 228 [.ref 60, .int x1, .int x3] p1)).bind fun p2 =>
  ((mm_aV (mm_E n xs N d 228 [.ref 60, .int x2, .int x4] p2)).bind fun p3 =>
  (if (4 : Int32) = 0 then none else
    ((mm_aV (mm_E n xs N d 262 [.ref 60, .int (0 : Int32)] p3)).bind fun p4 =>
    (if x5 = 0 then
    some (some (.int (((mm_I p3 77 8) / (4 : Int32)) - x3)), p4)
    else
    some (some (.int (((mm_I p3 77 8) / (4 : Int32)) - x4)), p4))))))) := by exact rfl
set_option maxRecDepth 40000 in
set_option maxHeartbeats 4000000 in
theorem u_X12_areTwo (n : Nat) (xs : Nat → Int32) (N d : Nat) (M : mmM) (x1 : Int32) (x2 : Int32) : mm_E n xs N (d + 1) 282 [.ref 60, .int x1, .int x2] M =
  ((mm_aI (mm_E n xs N d 222 [.ref 60, .int x1] M)).bind fun p1 =>
  (if p1.1 = 0 then
  some (some (.int (0 : Int32)), p1.2)
  else
  ((mm_aI (mm_E n xs N d 222 [.ref 60, .int x2] p1.2)).bind fun p2 =>
    (if p2.1 = 0 then
    some (some (.int (0 : Int32)), p2.2)
    else
    (if x1 = x2 then
      some (some (.int (0 : Int32)), p2.2)
      else
      some (some (.int (1 : Int32)), p2.2)))))) := by exact rfl
set_option maxRecDepth 40000 in
set_option maxHeartbeats 4000000 in
theorem u_X12_game (n : Nat) (xs : Nat → Int32) (N d : Nat) (M : mmM) (x1 : Int32) (x2 : Int32) (x3 : Int32) (x4 : Int32) (x5 : Int32) : mm_E n xs N (d + 1) 283 [.ref 60, .int x1, .int x2, .int x3, .int x4, .int x5] M =
  ((mm_aI (mm_E n xs N d 282 [.ref 60, .int x1, .int x2] M)).bind fun p1 =>
  (if p1.1 = 0 then
  some (some (.int (-1000000 : Int32)), p1.2)
  else
  ((mm_aI (mm_E n xs N d 179 [.int x3, .int (0 : Int32), .int (5 : Int32)] p1.2)).bind fun p2 =>
    (if p2.1 = 0 then
    some (some (.int (-1000000 : Int32)), p2.2)
    else
    ((mm_aI (mm_E n xs N d 179 [.int x4, .int (0 : Int32), .int (5 : Int32)] p2.2)).bind fun p3 =>
      (if p3.1 = 0 then
      some (some (.int (-1000000 : Int32)), p3.2)
      else
      ((mm_aI (mm_E n xs N d 179 [.int x5, .int (0 : Int32), .int (1 : Int32)] p3.2)).bind fun p4 =>
        (if p4.1 = 0 then
        some (some (.int (-1000000 : Int32)), p4.2)
        else
        ((mm_aI (mm_E n xs N d 281 [.ref 60, .int x1, .int x2, .int x3, .int x4, .int x5] p4.2)).bind fun p5 =>
          some (some (.int p5.1), p5.2)))))))))) := by exact rfl
noncomputable def lp_X12_isRest (n : Nat) (xs : Nat → Int32) (N d f t : Nat) : mmK := mm_lp (mm_Y n xs) (mm_E n xs N d) cd_X12_isRest.1 cd_X12_isRest.2.1 f t
set_option maxRecDepth 40000 in
set_option maxHeartbeats 4000000 in
theorem u_X12_isRest (n : Nat) (xs : Nat → Int32) (N d : Nat) (M : mmM) (x1 : Int32) (x2 : Int32) (x3 : Int32) (x4 : Int32) : mm_E n xs N (d + 1) 284 [.ref 60, .int x1, .int x2, .int x3, .int x4] M =
  (lp_X12_isRest n xs N d N 3 [some (.ref 60), some (.int x1), some (.int x2), some (.int x3), some (.int x4), some (.int (0 : Int32))] [] M) := by exact rfl
set_option maxRecDepth 40000 in
set_option maxHeartbeats 4000000 in
theorem lu_X12_isRest_3 (n : Nat) (xs : Nat → Int32) (N d f : Nat) (M : mmM) (y1 : Int32) (y2 : Int32) (y3 : Int32) (y4 : Int32) (y5 : Int32) : lp_X12_isRest n xs N d (f + 1) 3 [some (.ref 60), some (.int y1), some (.int y2), some (.int y3), some (.int y4), some (.int y5)] [] M =
  (if (6 : Int32) ≤ y5 then
  some (some (.int (1 : Int32)), M)
  else
  ((mm_aI (mm_E n xs N d 281 [.ref 60, .int y1, .int y2, .int y5, .int y4, .int (0 : Int32)] M)).bind fun p1 =>
    ((mm_aI (mm_E n xs N d 281 [.ref 60, .int y1, .int y2, .int y3, .int y4, .int (0 : Int32)] p1.2)).bind fun p2 =>
    (if p2.1 < p1.1 then
    some (some (.int (0 : Int32)), p2.2)
    else
    ((mm_aI (mm_E n xs N d 281 [.ref 60, .int y1, .int y2, .int y3, .int y5, .int (1 : Int32)] p2.2)).bind fun p3 =>
      ((mm_aI (mm_E n xs N d 281 [.ref 60, .int y1, .int y2, .int y3, .int y4, .int (1 : Int32)] p3.2)).bind fun p4 =>
      (if p3.1 ≤ p4.1 then
      (lp_X12_isRest n xs N d f 3 [some (.ref 60), some (.int y1), some (.int y2), some (.int y3), some (.int y4), some (.int (y5 + (1 : Int32)))] [] p4.2)
      else
      some (some (.int (0 : Int32)), p4.2)))))))) := by exact rfl
noncomputable def lp_X12_rests (n : Nat) (xs : Nat → Int32) (N d f t : Nat) : mmK := mm_lp (mm_Y n xs) (mm_E n xs N d) cd_X12_rests.1 cd_X12_rests.2.1 f t
set_option maxRecDepth 40000 in
set_option maxHeartbeats 4000000 in
theorem u_X12_rests (n : Nat) (xs : Nat → Int32) (N d : Nat) (M : mmM) (x1 : Int32) (x2 : Int32) (x3 : Int32) : mm_E n xs N (d + 1) 285 [.ref 60, .int x1, .int x2, .int x3] M =
  ((mm_aI (mm_E n xs N d 282 [.ref 60, .int x1, .int x2] M)).bind fun p1 =>
  (if p1.1 = 0 then
  some (some (.int (-1 : Int32)), p1.2)
  else
  (if (-1 : Int32) ≤ x3 then
    (lp_X12_rests n xs N d N 22 [some (.ref 60), some (.int x1), some (.int x2), some (.int x3), some (.int (0 : Int32)), some (.int (0 : Int32))] [] p1.2)
    else
    some (some (.int (-1 : Int32)), p1.2)))) := by exact rfl
set_option maxRecDepth 40000 in
set_option maxHeartbeats 4000000 in
theorem lu_X12_rests_22 (n : Nat) (xs : Nat → Int32) (N d f : Nat) (M : mmM) (y1 : Int32) (y2 : Int32) (y3 : Int32) (y4 : Int32) (y5 : Int32) : lp_X12_rests n xs N d (f + 1) 22 [some (.ref 60), some (.int y1), some (.int y2), some (.int y3), some (.int y4), some (.int y5)] [] M =
  (if (36 : Int32) ≤ y5 then
  (if y3 = (-1 : Int32) then
    some (some (.int y4), M)
    else
    some (some (.int (-1 : Int32)), M))
  else
  (if (6 : Int32) = 0 then none else
    (if (6 : Int32) = 0 then none else
    ((mm_aI (mm_E n xs N d 284 [.ref 60, .int y1, .int y2, .int (y5 / (6 : Int32)), .int (y5 - y5 / (6 : Int32) * (6 : Int32))] M)).bind fun p2 =>
    (if p2.1 = 0 then
    (lp_X12_rests n xs N d f 22 [some (.ref 60), some (.int y1), some (.int y2), some (.int y3), some (.int y4), some (.int (y5 + (1 : Int32)))] [] p2.2)
    else
    (if y4 = y3 then
      (if (6 : Int32) = 0 then none else
        (if (6 : Int32) = 0 then none else
        some (some (.int (((10 : Int32) * (y5 / (6 : Int32))) + (y5 - y5 / (6 : Int32) * (6 : Int32)))), p2.2)))
      else
      (lp_X12_rests n xs N d f 22 [some (.ref 60), some (.int y1), some (.int y2), some (.int y3), some (.int (y4 + (1 : Int32))), some (.int (y5 + (1 : Int32)))] [] p2.2))))))) := by exact rfl
noncomputable def lp_X12_oddsFrom (n : Nat) (xs : Nat → Int32) (N d f t : Nat) : mmK := mm_lp (mm_Y n xs) (mm_E n xs N d) cd_X12_oddsFrom.1 cd_X12_oddsFrom.2.1 f t
set_option maxRecDepth 40000 in
set_option maxHeartbeats 4000000 in
theorem u_X12_oddsFrom (n : Nat) (xs : Nat → Int32) (N d : Nat) (M : mmM) (x1 : Int32) (x2 : Int32) (x3 : Int32) (x4 : Int32) (x5 : Int32) : mm_E n xs N (d + 1) 286 [.ref 60, .int x1, .int x2, .int x3, .int x4, .int x5] M =
  (if x2 = 0 then
  (if (mm_I M 77 8) < x4 then
      some (some (.int (0 : Int32)), M)
      else
      some (some (.int x5), M))
  else
  (if (100 : Int64) = 0 then none else
    ((mm_aV (mm_E n xs N d 261 [.ref 60, .int x1] M)).bind fun p1 =>
    (lp_X12_oddsFrom n xs N d N 47 [some (.ref 60), some (.int x1), some (.int x2), some (.int x3), some (.int x4), some (.int x5), some (.int (((x5.toInt64 * x3.toInt64) / (100 : Int64)).toInt32)), some (.int (0 : Int32)), some (.int (0 : Int32))] [] p1)))) := by exact rfl
set_option maxRecDepth 40000 in
set_option maxHeartbeats 4000000 in
theorem lu_X12_oddsFrom_47 (n : Nat) (xs : Nat → Int32) (N d f : Nat) (M : mmM) (y1 : Int32) (y2 : Int32) (y3 : Int32) (y4 : Int32) (y5 : Int32) (y6 : Int32) (y7 : Int32) (y8 : Int32) : lp_X12_oddsFrom n xs N d (f + 1) 47 [some (.ref 60), some (.int y1), some (.int y2), some (.int y3), some (.int y4), some (.int y5), some (.int y6), some (.int y7), some (.int y8)] [] M =
  (if (2 : Int32) ≤ y8 then
  some (some (.int y7), M)
  else
  (if y8 = (1 : Int32) then
    ((mm_aV (mm_E n xs N d 233 [.ref 60] M)).bind fun p2 =>
      ((mm_aV (mm_E n xs N d 234 [.ref 60] p2)).bind fun p3 =>
      (if y8 = (1 : Int32) then
      ((mm_aI (mm_E n xs N d 286 [.ref 60, .int (y1 + (1 : Int32)), .int (y2 - (1 : Int32)), .int y3, .int y4, .int y6] p3)).bind fun p4 =>
        ((mm_aV (mm_E n xs N d 262 [.ref 60, .int y1] p4.2)).bind fun p5 =>
        (lp_X12_oddsFrom n xs N d f 47 [some (.ref 60), some (.int y1), some (.int y2), some (.int y3), some (.int y4), some (.int y5), some (.int y6), some (.int (y7 + p4.1)), some (.int (y8 + (1 : Int32)))] [] p5)))
      else
      ((mm_aI (mm_E n xs N d 286 [.ref 60, .int (y1 + (1 : Int32)), .int (y2 - (1 : Int32)), .int y3, .int y4, .int (y5 - y6)] p3)).bind fun p6 =>
        ((mm_aV (mm_E n xs N d 262 [.ref 60, .int y1] p6.2)).bind fun p7 =>
        (lp_X12_oddsFrom n xs N d f 47 [some (.ref 60), some (.int y1), some (.int y2), some (.int y3), some (.int y4), some (.int y5), some (.int y6), some (.int (y7 + p6.1)), some (.int (y8 + (1 : Int32)))] [] p7))))))
    else
    ((mm_aV (mm_E n xs N d 234 [.ref 60] M)).bind fun p8 =>
      (if y8 = (1 : Int32) then
      ((mm_aI (mm_E n xs N d 286 [.ref 60, .int (y1 + (1 : Int32)), .int (y2 - (1 : Int32)), .int y3, .int y4, .int y6] p8)).bind fun p9 =>
        ((mm_aV (mm_E n xs N d 262 [.ref 60, .int y1] p9.2)).bind fun p10 =>
        (lp_X12_oddsFrom n xs N d f 47 [some (.ref 60), some (.int y1), some (.int y2), some (.int y3), some (.int y4), some (.int y5), some (.int y6), some (.int (y7 + p9.1)), some (.int (y8 + (1 : Int32)))] [] p10)))
      else
      ((mm_aI (mm_E n xs N d 286 [.ref 60, .int (y1 + (1 : Int32)), .int (y2 - (1 : Int32)), .int y3, .int y4, .int (y5 - y6)] p8)).bind fun p11 =>
        ((mm_aV (mm_E n xs N d 262 [.ref 60, .int y1] p11.2)).bind fun p12 =>
        (lp_X12_oddsFrom n xs N d f 47 [some (.ref 60), some (.int y1), some (.int y2), some (.int y3), some (.int y4), some (.int y5), some (.int y6), some (.int (y7 + p11.1)), some (.int (y8 + (1 : Int32)))] [] p12))))))) := by exact rfl
set_option maxRecDepth 40000 in
set_option maxHeartbeats 4000000 in
theorem u_X12_odds (n : Nat) (xs : Nat → Int32) (N d : Nat) (M : mmM) (x1 : Int32) (x2 : Int32) (x3 : Int32) : mm_E n xs N (d + 1) 287 [.ref 60, .int x1, .int x2, .int x3] M =
  (if (mm_I M 60 26) = 0 then
  some (some (.int (-1 : Int32)), M)
  else
  ((mm_aI (mm_E n xs N d 179 [.int x1, .int (0 : Int32), .int (8 : Int32)] M)).bind fun p1 =>
    (if p1.1 = 0 then
    some (some (.int (-1 : Int32)), p1.2)
    else
    ((mm_aI (mm_E n xs N d 179 [.int x2, .int (0 : Int32), .int (100 : Int32)] p1.2)).bind fun p2 =>
      (if p2.1 = 0 then
      some (some (.int (-1 : Int32)), p2.2)
      else
      ((mm_aI (mm_E n xs N d 179 [.int x3, .int (0 : Int32), .int (99 : Int32)] p2.2)).bind fun p3 =>
        (if p3.1 = 0 then
        some (some (.int (-1 : Int32)), p3.2)
        else
        ((mm_aI (mm_E n xs N d 286 [.ref 60, .int (0 : Int32), .int x1, .int x2, .int x3, .int (1000000000 : Int32)] p3.2)).bind fun p4 =>
          some (some (.int p4.1), p4.2))))))))) := by exact rfl
noncomputable def lp_X12_shares (n : Nat) (xs : Nat → Int32) (N d f t : Nat) : mmK := mm_lp (mm_Y n xs) (mm_E n xs N d) cd_X12_shares.1 cd_X12_shares.2.1 f t
set_option maxRecDepth 40000 in
set_option maxHeartbeats 4000000 in
theorem u_X12_shares (n : Nat) (xs : Nat → Int32) (N d : Nat) (M : mmM) (x1 : Int32) (x2 : Int32) : mm_E n xs N (d + 1) 288 [.ref 60, .int x1, .int x2] M =
  ((mm_aI (mm_E n xs N d 222 [.ref 60, .int x1] M)).bind fun p1 =>
  (if p1.1 = 0 then
  some (some (.int (-1 : Int32)), p1.2)
  else
  ((mm_aI (mm_E n xs N d 179 [.int x2, .int (0 : Int32), .int (999 : Int32)] p1.2)).bind fun p2 =>
    (if p2.1 = 0 then
    some (some (.int (-1 : Int32)), p2.2)
    else
    (lp_X12_shares n xs N d N 26 [some (.ref 60), some (.int x1), some (.int x2), some (.int (0 : Int32)), some (.int (0 : Int32))] [] p2.2))))) := by exact rfl
set_option maxRecDepth 40000 in
set_option maxHeartbeats 4000000 in
theorem lu_X12_shares_26 (n : Nat) (xs : Nat → Int32) (N d f : Nat) (M : mmM) (y1 : Int32) (y2 : Int32) (y3 : Int32) (y4 : Int32) : lp_X12_shares n xs N d (f + 1) 26 [some (.ref 60), some (.int y1), some (.int y2), some (.int y3), some (.int y4)] [] M =
  (if (mm_I M 60 25) ≤ y4 then
  (cond (mm_inb ((0 : Int32) + y1) 198)
    (if y3 = 0 then none else
      some (some (.int ((y2 * (mm_I M 77 (((0 : Int32) + y1).toNatClampNeg))) / y3)), M)) none)
  else
  (cond (mm_inb ((0 : Int32) + y4) 198)
    (lp_X12_shares n xs N d f 26 [some (.ref 60), some (.int y1), some (.int y2), some (.int (y3 + (mm_I M 77 (((0 : Int32) + y4).toNatClampNeg)))), some (.int (y4 + (1 : Int32)))] [] M) none)) := by exact rfl
noncomputable def lp_X12_topMinister (n : Nat) (xs : Nat → Int32) (N d f t : Nat) : mmK := mm_lp (mm_Y n xs) (mm_E n xs N d) cd_X12_topMinister.1 cd_X12_topMinister.2.1 f t
set_option maxRecDepth 40000 in
set_option maxHeartbeats 4000000 in
theorem u_X12_topMinister (n : Nat) (xs : Nat → Int32) (N d : Nat) (M : mmM) (x1 : Int32) : mm_E n xs N (d + 1) 289 [.ref 60, .int x1] M =
  (lp_X12_topMinister n xs N d N 4 [some (.ref 60), some (.int x1), some (.int (0 : Int32)), some (.int (1 : Int32))] [] M) := by exact rfl
set_option maxRecDepth 40000 in
set_option maxHeartbeats 4000000 in
theorem lu_X12_topMinister_4 (n : Nat) (xs : Nat → Int32) (N d f : Nat) (M : mmM) (y1 : Int32) (y2 : Int32) (y3 : Int32) : lp_X12_topMinister n xs N d (f + 1) 4 [some (.ref 60), some (.int y1), some (.int y2), some (.int y3)] [] M =
  (if (mm_I M 60 26) ≤ y3 then
  some (some (.int y2), M)
  else
  ((mm_aI (mm_E n xs N d 221 [.ref 60, .int y3, .int y1] M)).bind fun p1 =>
    ((mm_aI (mm_E n xs N d 221 [.ref 60, .int y2, .int y1] p1.2)).bind fun p2 =>
    (if p1.1 ≤ p2.1 then
    (lp_X12_topMinister n xs N d f 4 [some (.ref 60), some (.int y1), some (.int y2), some (.int (y3 + (1 : Int32)))] [] p2.2)
    else
    (lp_X12_topMinister n xs N d f 4 [some (.ref 60), some (.int y1), some (.int y3), some (.int (y3 + (1 : Int32)))] [] p2.2))))) := by exact rfl
noncomputable def lp_X12_topCook (n : Nat) (xs : Nat → Int32) (N d f t : Nat) : mmK := mm_lp (mm_Y n xs) (mm_E n xs N d) cd_X12_topCook.1 cd_X12_topCook.2.1 f t
set_option maxRecDepth 40000 in
set_option maxHeartbeats 4000000 in
theorem u_X12_topCook (n : Nat) (xs : Nat → Int32) (N d : Nat) (M : mmM) (x1 : Int32) : mm_E n xs N (d + 1) 290 [.ref 60, .int x1] M =
  (lp_X12_topCook n xs N d N 4 [some (.ref 60), some (.int x1), some (.int (0 : Int32)), some (.int (1 : Int32)), none] [] M) := by exact rfl
set_option maxRecDepth 40000 in
set_option maxHeartbeats 4000000 in
theorem lu_X12_topCook_4 (n : Nat) (xs : Nat → Int32) (N d f : Nat) (M : mmM) (y1 : Int32) (y2 : Int32) (y3 : Int32) : lp_X12_topCook n xs N d (f + 1) 4 [some (.ref 60), some (.int y1), some (.int y2), some (.int y3), none] [] M =
  (if (mm_I M 60 25) ≤ y3 then
  some (some (.int y2), M)
  else
  (if y1 = 0 then
    ((mm_aI (mm_E n xs N d 224 [.ref 60, .int y3] M)).bind fun p1 =>
      ((mm_aI (mm_E n xs N d 224 [.ref 60, .int y2] p1.2)).bind fun p2 =>
      (if (p1.1 - p2.1) ≤ 0 then
      (lp_X12_topCook n xs N d f 4 [some (.ref 60), some (.int y1), some (.int y2), some (.int (y3 + (1 : Int32))), none] [] p2.2)
      else
      (lp_X12_topCook n xs N d f 4 [some (.ref 60), some (.int y1), some (.int y3), some (.int (y3 + (1 : Int32))), none] [] p2.2))))
    else
    (cond (mm_inb ((0 : Int32) + y3) 198)
      (cond (mm_inb ((0 : Int32) + y2) 198)
        (if ((mm_I M 77 (((0 : Int32) + y3).toNatClampNeg)) - (mm_I M 77 (((0 : Int32) + y2).toNatClampNeg))) ≤ 0 then
          (lp_X12_topCook n xs N d f 4 [some (.ref 60), some (.int y1), some (.int y2), some (.int (y3 + (1 : Int32))), none] [] M)
          else
          (lp_X12_topCook n xs N d f 4 [some (.ref 60), some (.int y1), some (.int y3), some (.int (y3 + (1 : Int32))), none] [] M)) none) none))) := by exact rfl
noncomputable def lp_X12_could (n : Nat) (xs : Nat → Int32) (N d f t : Nat) : mmK := mm_lp (mm_Y n xs) (mm_E n xs N d) cd_X12_could.1 cd_X12_could.2.1 f t
set_option maxRecDepth 40000 in
set_option maxHeartbeats 4000000 in
theorem u_X12_could (n : Nat) (xs : Nat → Int32) (N d : Nat) (M : mmM)  : mm_E n xs N (d + 1) 291 [.ref 60] M =
  (lp_X12_could n xs N d N 4 [some (.ref 60), some (.int (0 : Int32)), some (.int (0 : Int32))] [] M) := by exact rfl
set_option maxRecDepth 40000 in
set_option maxHeartbeats 4000000 in
theorem lu_X12_could_4 (n : Nat) (xs : Nat → Int32) (N d f : Nat) (M : mmM) (y1 : Int32) (y2 : Int32) : lp_X12_could n xs N d (f + 1) 4 [some (.ref 60), some (.int y1), some (.int y2)] [] M =
  (if (mm_I M 60 26) ≤ y2 then
  some (some (.int y1), M)
  else
  ((mm_aI (mm_E n xs N d 235 [.ref 60, .int y2] M)).bind fun p1 =>
    (if p1.1 = 0 then
    (lp_X12_could n xs N d f 4 [some (.ref 60), some (.int (y1 ||| (0 : Int32))), some (.int (y2 + (1 : Int32)))] [] p1.2)
    else
    (lp_X12_could n xs N d f 4 [some (.ref 60), some (.int (y1 ||| ((1 : Int32) <<< (y2 &&& 31)))), some (.int (y2 + (1 : Int32)))] [] p1.2)))) := by exact rfl
noncomputable def lp_X12_doors (n : Nat) (xs : Nat → Int32) (N d f t : Nat) : mmK := mm_lp (mm_Y n xs) (mm_E n xs N d) cd_X12_doors.1 cd_X12_doors.2.1 f t
set_option maxRecDepth 40000 in
set_option maxHeartbeats 4000000 in
theorem u_X12_doors (n : Nat) (xs : Nat → Int32) (N d : Nat) (M : mmM)  : mm_E n xs N (d + 1) 292 [.ref 60] M =
  (lp_X12_doors n xs N d N 10 [none, some (.int (0 : Int32)), some (.int (mm_I M 77 8))] [] M) := by exact rfl
set_option maxRecDepth 40000 in
set_option maxHeartbeats 4000000 in
theorem lu_X12_doors_10 (n : Nat) (xs : Nat → Int32) (N d f : Nat) (M : mmM) (y1 : Int32) (y2 : Int32) : lp_X12_doors n xs N d (f + 1) 10 [none, some (.int y1), some (.int y2)] [] M =
  (if y2 ≤ 0 then
  some (some (.int y1), M)
  else
  (if (2 : Int32) = 0 then none else
    (lp_X12_doors n xs N d f 10 [none, some (.int (y1 + (1 : Int32))), some (.int (y2 / (2 : Int32)))] [] M))) := by exact rfl
set_option maxRecDepth 40000 in
set_option maxHeartbeats 4000000 in
theorem u_X12_most (n : Nat) (xs : Nat → Int32) (N d : Nat) (M : mmM) (x1 : Int32) : mm_E n xs N (d + 1) 293 [.ref 60, .int x1] M =
  (if (mm_I M 60 26) = 0 then
  some (some (.int (-1 : Int32)), M)
  else
  (if x1 = 0 then
    ((mm_aI (mm_E n xs N d 289 [.ref 60, .int (0 : Int32)] M)).bind fun p1 =>
      some (some (.int p1.1), p1.2))
    else if x1 = 1 then
    ((mm_aI (mm_E n xs N d 289 [.ref 60, .int (1 : Int32)] M)).bind fun p2 =>
      some (some (.int p2.1), p2.2))
    else if x1 = 2 then
    ((mm_aI (mm_E n xs N d 289 [.ref 60, .int (2 : Int32)] M)).bind fun p3 =>
      some (some (.int p3.1), p3.2))
    else if x1 = 3 then
    ((mm_aI (mm_E n xs N d 290 [.ref 60, .int (1 : Int32)] M)).bind fun p4 =>
      some (some (.int p4.1), p4.2))
    else if x1 = 4 then
    ((mm_aI (mm_E n xs N d 290 [.ref 60, .int (0 : Int32)] M)).bind fun p5 =>
      some (some (.int p5.1), p5.2))
    else if x1 = 5 then
    some (some (.int (mm_I M 77 10)), M)
    else if x1 = 6 then
    ((mm_aI (mm_E n xs N d 291 [.ref 60] M)).bind fun p6 =>
      some (some (.int p6.1), p6.2))
    else if x1 = 7 then
    ((mm_aI (mm_E n xs N d 229 [.ref 60] M)).bind fun p7 =>
      some (some (.int p7.1), p7.2))
    else if x1 = 8 then
    ((mm_aI (mm_E n xs N d 292 [.ref 60] M)).bind fun p8 =>
      some (some (.int p8.1), p8.2))
    else if x1 = 9 then
    ((mm_aI (mm_E n xs N d 230 [.ref 60] M)).bind fun p9 =>
      some (some (.int p9.1), p9.2))
    else some (some (.int (-1 : Int32)), M))) := by exact rfl
noncomputable def lp_X12_ahead (n : Nat) (xs : Nat → Int32) (N d f t : Nat) : mmK := mm_lp (mm_Y n xs) (mm_E n xs N d) cd_X12_ahead.1 cd_X12_ahead.2.1 f t
set_option maxRecDepth 40000 in
set_option maxHeartbeats 4000000 in
theorem u_X12_ahead (n : Nat) (xs : Nat → Int32) (N d : Nat) (M : mmM) (x1 : Int32) : mm_E n xs N (d + 1) 294 [.ref 60, .int x1] M =
  (if (mm_I M 60 26) = 0 then
  some (some (.int (-1 : Int32)), M)
  else
  ((mm_aI (mm_E n xs N d 179 [.int x1, .int (1 : Int32), .int (9999 : Int32)] M)).bind fun p1 =>
    (if p1.1 = 0 then
    some (some (.int (-1 : Int32)), p1.2)
    else
    (lp_X12_ahead n xs N d N 22 [some (.ref 60), some (.int x1), some (.int (0 : Int32))] [] p1.2)))) := by exact rfl
set_option maxRecDepth 40000 in
set_option maxHeartbeats 4000000 in
theorem lu_X12_ahead_22 (n : Nat) (xs : Nat → Int32) (N d f : Nat) (M : mmM) (y1 : Int32) (y2 : Int32) : lp_X12_ahead n xs N d (f + 1) 22 [some (.ref 60), some (.int y1), some (.int y2)] [] M =
  (if (999 : Int32) < y2 then
  some (some (.int (-1 : Int32)), M)
  else
  ((mm_aI (mm_E n xs N d 230 [.ref 60] M)).bind fun p2 =>
      (if ((mm_I M 77 14) + (y2 * p2.1)) < y1 then
      (lp_X12_ahead n xs N d f 22 [some (.ref 60), some (.int y1), some (.int (y2 + (1 : Int32)))] [] p2.2)
      else
      some (some (.int y2), p2.2)))) := by exact rfl
noncomputable def lp_X12_image (n : Nat) (xs : Nat → Int32) (N d f t : Nat) : mmK := mm_lp (mm_Y n xs) (mm_E n xs N d) cd_X12_image.1 cd_X12_image.2.1 f t
set_option maxRecDepth 40000 in
set_option maxHeartbeats 4000000 in
theorem u_X12_image (n : Nat) (xs : Nat → Int32) (N d : Nat) (M : mmM)  : mm_E n xs N (d + 1) 295 [.ref 60] M =
  (if (mm_I M 60 26) = 0 then
  some (some (.int (-1 : Int32)), M)
  else
  (lp_X12_image n xs N d N 11 [some (.ref 60), some (.int (0 : Int32))] [] M)) := by exact rfl
set_option maxRecDepth 40000 in
set_option maxHeartbeats 4000000 in
theorem lu_X12_image_11 (n : Nat) (xs : Nat → Int32) (N d f : Nat) (M : mmM) (y1 : Int32) : lp_X12_image n xs N d (f + 1) 11 [some (.ref 60), some (.int y1)] [] M =
  (if (198 : Int32) ≤ y1 then
  some (some (.int (mm_I M 77 16)), (mm_wI M 60 45 (1 : Int32)))
  else
  (cond (mm_inb y1 198)
    (cond (mm_inb y1 198 && Nat.ble 16 85)
      (lp_X12_image n xs N d f 11 [some (.ref 60), some (.int (y1 + (1 : Int32)))] [] (mm_wI M 85 y1.toNatClampNeg (mm_I M 77 y1.toNatClampNeg))) none) none)) := by exact rfl
noncomputable def lp_X12_back (n : Nat) (xs : Nat → Int32) (N d f t : Nat) : mmK := mm_lp (mm_Y n xs) (mm_E n xs N d) cd_X12_back.1 cd_X12_back.2.1 f t
set_option maxRecDepth 40000 in
set_option maxHeartbeats 4000000 in
theorem u_X12_back (n : Nat) (xs : Nat → Int32) (N d : Nat) (M : mmM)  : mm_E n xs N (d + 1) 296 [.ref 60] M =
  (if (mm_I M 60 45) = 0 then
  some (some (.int (-1 : Int32)), M)
  else
  (lp_X12_back n xs N d N 11 [some (.ref 60), some (.int (0 : Int32))] [] M)) := by exact rfl
set_option maxRecDepth 40000 in
set_option maxHeartbeats 4000000 in
theorem lu_X12_back_11 (n : Nat) (xs : Nat → Int32) (N d f : Nat) (M : mmM) (y1 : Int32) : lp_X12_back n xs N d (f + 1) 11 [some (.ref 60), some (.int y1)] [] M =
  (if (198 : Int32) ≤ y1 then
  some (some (.int (mm_I M 77 16)), (mm_wI M 60 32 (0 : Int32)))
  else
  (cond (mm_inb y1 198)
    (cond (mm_inb y1 198 && Nat.ble 16 77)
      (lp_X12_back n xs N d f 11 [some (.ref 60), some (.int (y1 + (1 : Int32)))] [] (mm_wI M 77 y1.toNatClampNeg (mm_I M 85 y1.toNatClampNeg))) none) none)) := by exact rfl
set_option maxRecDepth 40000 in
set_option maxHeartbeats 4000000 in
theorem u_X12_count (n : Nat) (xs : Nat → Int32) (N d : Nat) (M : mmM) (x1 : Int32) : mm_E n xs N (d + 1) 297 [.ref 60, .int x1] M =
  (if x1 = 0 then
  some (some (.int (mm_I M 60 26)), M)
  else if x1 = 1 then
  some (some (.int (mm_I M 60 25)), M)
  else if x1 = 2 then
  some (some (.int (mm_I M 60 13)), M)
  else if x1 = 3 then
  some (some (.int (mm_I M 60 2)), M)
  else if x1 = 4 then
  some (some (.int (mm_I M 60 29)), M)
  else if x1 = 5 then
  some (some (.int (mm_I M 77 16)), M)
  else if x1 = 6 then
  some (some (.int (mm_I M 77 8)), M)
  else if x1 = 7 then
  some (some (.int (mm_I M 77 9)), M)
  else if x1 = 8 then
  some (some (.int (mm_I M 77 11)), M)
  else if x1 = 9 then
  some (some (.int (mm_I M 77 14)), M)
  else if x1 = 10 then
  some (some (.int (mm_I M 77 15)), M)
  else if x1 = 11 then
  some (some (.int (mm_I M 60 30)), M)
  else if x1 = 12 then
  some (some (.int (mm_I M 60 43)), M)
  else if x1 = 13 then
  some (some (.int (mm_I M 77 17)), M)
  else if x1 = 14 then
  some (some (.int (mm_I M 60 32)), M)
  else some (some (.int (-1000000 : Int32)), M)) := by exact rfl
set_option maxRecDepth 40000 in
set_option maxHeartbeats 4000000 in
theorem u_J6_numberOfTrailingZeros_0f7a4 (n : Nat) (xs : Nat → Int32) (N d : Nat) (M : mmM) (x1 : Int32) : mm_E n xs N (d + 1) 298 [.int x1] M =
  (if 0 < ((x1 ^^^ (-1 : Int32)) &&& (x1 - (1 : Int32))) then
  (if ((x1 ^^^ (-1 : Int32)) &&& (x1 - (1 : Int32))) ≤ (65536 : Int32) then
    (if ((x1 ^^^ (-1 : Int32)) &&& (x1 - (1 : Int32))) ≤ (256 : Int32) then
      (if ((x1 ^^^ (-1 : Int32)) &&& (x1 - (1 : Int32))) ≤ (16 : Int32) then
        (if ((x1 ^^^ (-1 : Int32)) &&& (x1 - (1 : Int32))) ≤ (4 : Int32) then
          some (some (.int ((1 : Int32) + ((((x1 ^^^ (-1 : Int32)) &&& (x1 - (1 : Int32))).toUInt32 >>> ((1 : Int32).toUInt32 &&& Int32.toUInt32 31)).toInt32))), M)
          else
          some (some (.int (((1 : Int32) + (2 : Int32)) + ((((((x1 ^^^ (-1 : Int32)) &&& (x1 - (1 : Int32))).toUInt32 >>> ((2 : Int32).toUInt32 &&& Int32.toUInt32 31)).toInt32).toUInt32 >>> ((1 : Int32).toUInt32 &&& Int32.toUInt32 31)).toInt32))), M))
        else
        (if ((((x1 ^^^ (-1 : Int32)) &&& (x1 - (1 : Int32))).toUInt32 >>> ((4 : Int32).toUInt32 &&& Int32.toUInt32 31)).toInt32) ≤ (4 : Int32) then
          some (some (.int (((1 : Int32) + (4 : Int32)) + ((((((x1 ^^^ (-1 : Int32)) &&& (x1 - (1 : Int32))).toUInt32 >>> ((4 : Int32).toUInt32 &&& Int32.toUInt32 31)).toInt32).toUInt32 >>> ((1 : Int32).toUInt32 &&& Int32.toUInt32 31)).toInt32))), M)
          else
          some (some (.int ((((1 : Int32) + (4 : Int32)) + (2 : Int32)) + ((((((((x1 ^^^ (-1 : Int32)) &&& (x1 - (1 : Int32))).toUInt32 >>> ((4 : Int32).toUInt32 &&& Int32.toUInt32 31)).toInt32).toUInt32 >>> ((2 : Int32).toUInt32 &&& Int32.toUInt32 31)).toInt32).toUInt32 >>> ((1 : Int32).toUInt32 &&& Int32.toUInt32 31)).toInt32))), M)))
      else
      (if ((((x1 ^^^ (-1 : Int32)) &&& (x1 - (1 : Int32))).toUInt32 >>> ((8 : Int32).toUInt32 &&& Int32.toUInt32 31)).toInt32) ≤ (16 : Int32) then
        (if ((((x1 ^^^ (-1 : Int32)) &&& (x1 - (1 : Int32))).toUInt32 >>> ((8 : Int32).toUInt32 &&& Int32.toUInt32 31)).toInt32) ≤ (4 : Int32) then
          some (some (.int (((1 : Int32) + (8 : Int32)) + ((((((x1 ^^^ (-1 : Int32)) &&& (x1 - (1 : Int32))).toUInt32 >>> ((8 : Int32).toUInt32 &&& Int32.toUInt32 31)).toInt32).toUInt32 >>> ((1 : Int32).toUInt32 &&& Int32.toUInt32 31)).toInt32))), M)
          else
          some (some (.int ((((1 : Int32) + (8 : Int32)) + (2 : Int32)) + ((((((((x1 ^^^ (-1 : Int32)) &&& (x1 - (1 : Int32))).toUInt32 >>> ((8 : Int32).toUInt32 &&& Int32.toUInt32 31)).toInt32).toUInt32 >>> ((2 : Int32).toUInt32 &&& Int32.toUInt32 31)).toInt32).toUInt32 >>> ((1 : Int32).toUInt32 &&& Int32.toUInt32 31)).toInt32))), M))
        else
        (if ((((((x1 ^^^ (-1 : Int32)) &&& (x1 - (1 : Int32))).toUInt32 >>> ((8 : Int32).toUInt32 &&& Int32.toUInt32 31)).toInt32).toUInt32 >>> ((4 : Int32).toUInt32 &&& Int32.toUInt32 31)).toInt32) ≤ (4 : Int32) then
          some (some (.int ((((1 : Int32) + (8 : Int32)) + (4 : Int32)) + ((((((((x1 ^^^ (-1 : Int32)) &&& (x1 - (1 : Int32))).toUInt32 >>> ((8 : Int32).toUInt32 &&& Int32.toUInt32 31)).toInt32).toUInt32 >>> ((4 : Int32).toUInt32 &&& Int32.toUInt32 31)).toInt32).toUInt32 >>> ((1 : Int32).toUInt32 &&& Int32.toUInt32 31)).toInt32))), M)
          else
          some (some (.int (((((1 : Int32) + (8 : Int32)) + (4 : Int32)) + (2 : Int32)) + ((((((((((x1 ^^^ (-1 : Int32)) &&& (x1 - (1 : Int32))).toUInt32 >>> ((8 : Int32).toUInt32 &&& Int32.toUInt32 31)).toInt32).toUInt32 >>> ((4 : Int32).toUInt32 &&& Int32.toUInt32 31)).toInt32).toUInt32 >>> ((2 : Int32).toUInt32 &&& Int32.toUInt32 31)).toInt32).toUInt32 >>> ((1 : Int32).toUInt32 &&& Int32.toUInt32 31)).toInt32))), M))))
    else
    (if ((((x1 ^^^ (-1 : Int32)) &&& (x1 - (1 : Int32))).toUInt32 >>> ((16 : Int32).toUInt32 &&& Int32.toUInt32 31)).toInt32) ≤ (256 : Int32) then
      (if ((((x1 ^^^ (-1 : Int32)) &&& (x1 - (1 : Int32))).toUInt32 >>> ((16 : Int32).toUInt32 &&& Int32.toUInt32 31)).toInt32) ≤ (16 : Int32) then
        (if ((((x1 ^^^ (-1 : Int32)) &&& (x1 - (1 : Int32))).toUInt32 >>> ((16 : Int32).toUInt32 &&& Int32.toUInt32 31)).toInt32) ≤ (4 : Int32) then
          some (some (.int (((1 : Int32) + (16 : Int32)) + ((((((x1 ^^^ (-1 : Int32)) &&& (x1 - (1 : Int32))).toUInt32 >>> ((16 : Int32).toUInt32 &&& Int32.toUInt32 31)).toInt32).toUInt32 >>> ((1 : Int32).toUInt32 &&& Int32.toUInt32 31)).toInt32))), M)
          else
          some (some (.int ((((1 : Int32) + (16 : Int32)) + (2 : Int32)) + ((((((((x1 ^^^ (-1 : Int32)) &&& (x1 - (1 : Int32))).toUInt32 >>> ((16 : Int32).toUInt32 &&& Int32.toUInt32 31)).toInt32).toUInt32 >>> ((2 : Int32).toUInt32 &&& Int32.toUInt32 31)).toInt32).toUInt32 >>> ((1 : Int32).toUInt32 &&& Int32.toUInt32 31)).toInt32))), M))
        else
        (if ((((((x1 ^^^ (-1 : Int32)) &&& (x1 - (1 : Int32))).toUInt32 >>> ((16 : Int32).toUInt32 &&& Int32.toUInt32 31)).toInt32).toUInt32 >>> ((4 : Int32).toUInt32 &&& Int32.toUInt32 31)).toInt32) ≤ (4 : Int32) then
          some (some (.int ((((1 : Int32) + (16 : Int32)) + (4 : Int32)) + ((((((((x1 ^^^ (-1 : Int32)) &&& (x1 - (1 : Int32))).toUInt32 >>> ((16 : Int32).toUInt32 &&& Int32.toUInt32 31)).toInt32).toUInt32 >>> ((4 : Int32).toUInt32 &&& Int32.toUInt32 31)).toInt32).toUInt32 >>> ((1 : Int32).toUInt32 &&& Int32.toUInt32 31)).toInt32))), M)
          else
          some (some (.int (((((1 : Int32) + (16 : Int32)) + (4 : Int32)) + (2 : Int32)) + ((((((((((x1 ^^^ (-1 : Int32)) &&& (x1 - (1 : Int32))).toUInt32 >>> ((16 : Int32).toUInt32 &&& Int32.toUInt32 31)).toInt32).toUInt32 >>> ((4 : Int32).toUInt32 &&& Int32.toUInt32 31)).toInt32).toUInt32 >>> ((2 : Int32).toUInt32 &&& Int32.toUInt32 31)).toInt32).toUInt32 >>> ((1 : Int32).toUInt32 &&& Int32.toUInt32 31)).toInt32))), M)))
      else
      (if ((((((x1 ^^^ (-1 : Int32)) &&& (x1 - (1 : Int32))).toUInt32 >>> ((16 : Int32).toUInt32 &&& Int32.toUInt32 31)).toInt32).toUInt32 >>> ((8 : Int32).toUInt32 &&& Int32.toUInt32 31)).toInt32) ≤ (16 : Int32) then
        (if ((((((x1 ^^^ (-1 : Int32)) &&& (x1 - (1 : Int32))).toUInt32 >>> ((16 : Int32).toUInt32 &&& Int32.toUInt32 31)).toInt32).toUInt32 >>> ((8 : Int32).toUInt32 &&& Int32.toUInt32 31)).toInt32) ≤ (4 : Int32) then
          some (some (.int ((((1 : Int32) + (16 : Int32)) + (8 : Int32)) + ((((((((x1 ^^^ (-1 : Int32)) &&& (x1 - (1 : Int32))).toUInt32 >>> ((16 : Int32).toUInt32 &&& Int32.toUInt32 31)).toInt32).toUInt32 >>> ((8 : Int32).toUInt32 &&& Int32.toUInt32 31)).toInt32).toUInt32 >>> ((1 : Int32).toUInt32 &&& Int32.toUInt32 31)).toInt32))), M)
          else
          some (some (.int (((((1 : Int32) + (16 : Int32)) + (8 : Int32)) + (2 : Int32)) + ((((((((((x1 ^^^ (-1 : Int32)) &&& (x1 - (1 : Int32))).toUInt32 >>> ((16 : Int32).toUInt32 &&& Int32.toUInt32 31)).toInt32).toUInt32 >>> ((8 : Int32).toUInt32 &&& Int32.toUInt32 31)).toInt32).toUInt32 >>> ((2 : Int32).toUInt32 &&& Int32.toUInt32 31)).toInt32).toUInt32 >>> ((1 : Int32).toUInt32 &&& Int32.toUInt32 31)).toInt32))), M))
        else
        (if ((((((((x1 ^^^ (-1 : Int32)) &&& (x1 - (1 : Int32))).toUInt32 >>> ((16 : Int32).toUInt32 &&& Int32.toUInt32 31)).toInt32).toUInt32 >>> ((8 : Int32).toUInt32 &&& Int32.toUInt32 31)).toInt32).toUInt32 >>> ((4 : Int32).toUInt32 &&& Int32.toUInt32 31)).toInt32) ≤ (4 : Int32) then
          some (some (.int (((((1 : Int32) + (16 : Int32)) + (8 : Int32)) + (4 : Int32)) + ((((((((((x1 ^^^ (-1 : Int32)) &&& (x1 - (1 : Int32))).toUInt32 >>> ((16 : Int32).toUInt32 &&& Int32.toUInt32 31)).toInt32).toUInt32 >>> ((8 : Int32).toUInt32 &&& Int32.toUInt32 31)).toInt32).toUInt32 >>> ((4 : Int32).toUInt32 &&& Int32.toUInt32 31)).toInt32).toUInt32 >>> ((1 : Int32).toUInt32 &&& Int32.toUInt32 31)).toInt32))), M)
          else
          some (some (.int ((((((1 : Int32) + (16 : Int32)) + (8 : Int32)) + (4 : Int32)) + (2 : Int32)) + ((((((((((((x1 ^^^ (-1 : Int32)) &&& (x1 - (1 : Int32))).toUInt32 >>> ((16 : Int32).toUInt32 &&& Int32.toUInt32 31)).toInt32).toUInt32 >>> ((8 : Int32).toUInt32 &&& Int32.toUInt32 31)).toInt32).toUInt32 >>> ((4 : Int32).toUInt32 &&& Int32.toUInt32 31)).toInt32).toUInt32 >>> ((2 : Int32).toUInt32 &&& Int32.toUInt32 31)).toInt32).toUInt32 >>> ((1 : Int32).toUInt32 &&& Int32.toUInt32 31)).toInt32))), M)))))
  else
  some (some (.int (((x1 ^^^ (-1 : Int32)) &&& (x1 - (1 : Int32))) &&& (32 : Int32))), M)) := by exact rfl
set_option maxRecDepth 40000 in
set_option maxHeartbeats 4000000 in
theorem u_J6_bitCount_0f7a4 (n : Nat) (xs : Nat → Int32) (N d : Nat) (M : mmM) (x1 : Int32) : mm_E n xs N (d + 1) 299 [.int x1] M =
  some (some (.int ((((((((x1 - (((x1.toUInt32 >>> ((1 : Int32).toUInt32 &&& Int32.toUInt32 31)).toInt32) &&& (1431655765 : Int32))) &&& (858993459 : Int32)) + ((((x1 - (((x1.toUInt32 >>> ((1 : Int32).toUInt32 &&& Int32.toUInt32 31)).toInt32) &&& (1431655765 : Int32))).toUInt32 >>> ((2 : Int32).toUInt32 &&& Int32.toUInt32 31)).toInt32) &&& (858993459 : Int32))) + (((((x1 - (((x1.toUInt32 >>> ((1 : Int32).toUInt32 &&& Int32.toUInt32 31)).toInt32) &&& (1431655765 : Int32))) &&& (858993459 : Int32)) + ((((x1 - (((x1.toUInt32 >>> ((1 : Int32).toUInt32 &&& Int32.toUInt32 31)).toInt32) &&& (1431655765 : Int32))).toUInt32 >>> ((2 : Int32).toUInt32 &&& Int32.toUInt32 31)).toInt32) &&& (858993459 : Int32))).toUInt32 >>> ((4 : Int32).toUInt32 &&& Int32.toUInt32 31)).toInt32)) &&& (252645135 : Int32)) + (((((((x1 - (((x1.toUInt32 >>> ((1 : Int32).toUInt32 &&& Int32.toUInt32 31)).toInt32) &&& (1431655765 : Int32))) &&& (858993459 : Int32)) + ((((x1 - (((x1.toUInt32 >>> ((1 : Int32).toUInt32 &&& Int32.toUInt32 31)).toInt32) &&& (1431655765 : Int32))).toUInt32 >>> ((2 : Int32).toUInt32 &&& Int32.toUInt32 31)).toInt32) &&& (858993459 : Int32))) + (((((x1 - (((x1.toUInt32 >>> ((1 : Int32).toUInt32 &&& Int32.toUInt32 31)).toInt32) &&& (1431655765 : Int32))) &&& (858993459 : Int32)) + ((((x1 - (((x1.toUInt32 >>> ((1 : Int32).toUInt32 &&& Int32.toUInt32 31)).toInt32) &&& (1431655765 : Int32))).toUInt32 >>> ((2 : Int32).toUInt32 &&& Int32.toUInt32 31)).toInt32) &&& (858993459 : Int32))).toUInt32 >>> ((4 : Int32).toUInt32 &&& Int32.toUInt32 31)).toInt32)) &&& (252645135 : Int32)).toUInt32 >>> ((8 : Int32).toUInt32 &&& Int32.toUInt32 31)).toInt32)) + ((((((((x1 - (((x1.toUInt32 >>> ((1 : Int32).toUInt32 &&& Int32.toUInt32 31)).toInt32) &&& (1431655765 : Int32))) &&& (858993459 : Int32)) + ((((x1 - (((x1.toUInt32 >>> ((1 : Int32).toUInt32 &&& Int32.toUInt32 31)).toInt32) &&& (1431655765 : Int32))).toUInt32 >>> ((2 : Int32).toUInt32 &&& Int32.toUInt32 31)).toInt32) &&& (858993459 : Int32))) + (((((x1 - (((x1.toUInt32 >>> ((1 : Int32).toUInt32 &&& Int32.toUInt32 31)).toInt32) &&& (1431655765 : Int32))) &&& (858993459 : Int32)) + ((((x1 - (((x1.toUInt32 >>> ((1 : Int32).toUInt32 &&& Int32.toUInt32 31)).toInt32) &&& (1431655765 : Int32))).toUInt32 >>> ((2 : Int32).toUInt32 &&& Int32.toUInt32 31)).toInt32) &&& (858993459 : Int32))).toUInt32 >>> ((4 : Int32).toUInt32 &&& Int32.toUInt32 31)).toInt32)) &&& (252645135 : Int32)) + (((((((x1 - (((x1.toUInt32 >>> ((1 : Int32).toUInt32 &&& Int32.toUInt32 31)).toInt32) &&& (1431655765 : Int32))) &&& (858993459 : Int32)) + ((((x1 - (((x1.toUInt32 >>> ((1 : Int32).toUInt32 &&& Int32.toUInt32 31)).toInt32) &&& (1431655765 : Int32))).toUInt32 >>> ((2 : Int32).toUInt32 &&& Int32.toUInt32 31)).toInt32) &&& (858993459 : Int32))) + (((((x1 - (((x1.toUInt32 >>> ((1 : Int32).toUInt32 &&& Int32.toUInt32 31)).toInt32) &&& (1431655765 : Int32))) &&& (858993459 : Int32)) + ((((x1 - (((x1.toUInt32 >>> ((1 : Int32).toUInt32 &&& Int32.toUInt32 31)).toInt32) &&& (1431655765 : Int32))).toUInt32 >>> ((2 : Int32).toUInt32 &&& Int32.toUInt32 31)).toInt32) &&& (858993459 : Int32))).toUInt32 >>> ((4 : Int32).toUInt32 &&& Int32.toUInt32 31)).toInt32)) &&& (252645135 : Int32)).toUInt32 >>> ((8 : Int32).toUInt32 &&& Int32.toUInt32 31)).toInt32)).toUInt32 >>> ((16 : Int32).toUInt32 &&& Int32.toUInt32 31)).toInt32)) &&& (63 : Int32))), M) := by exact rfl
set_option maxRecDepth 40000 in
set_option maxHeartbeats 4000000 in
theorem u_J9_floorMod_7cf53 (n : Nat) (xs : Nat → Int32) (N d : Nat) (M : mmM) (x1 : Int32) (x2 : Int32) : mm_E n xs N (d + 1) 300 [.int x1, .int x2] M =
  (if x2 = 0 then none else
  (if 0 ≤ (x1 ^^^ x2) then
  some (some (.int (x1 - x1 / x2 * x2)), M)
  else
  (if (x1 - x1 / x2 * x2) = 0 then
    some (some (.int (x1 - x1 / x2 * x2)), M)
    else
    some (some (.int ((x1 - x1 / x2 * x2) + x2)), M)))) := by exact rfl
set_option maxRecDepth 40000 in
set_option maxHeartbeats 4000000 in
theorem u_J9_abs_0f7a4 (n : Nat) (xs : Nat → Int32) (N d : Nat) (M : mmM) (x1 : Int32) : mm_E n xs N (d + 1) 301 [.int x1] M =
  (if 0 ≤ x1 then
  some (some (.int x1), M)
  else
  some (some (.int (-x1)), M)) := by exact rfl
set_option maxRecDepth 40000 in
set_option maxHeartbeats 4000000 in
theorem u_J9_max_7cf53 (n : Nat) (xs : Nat → Int32) (N d : Nat) (M : mmM) (x1 : Int32) (x2 : Int32) : mm_E n xs N (d + 1) 302 [.int x1, .int x2] M =
  (if x1 < x2 then
  some (some (.int x2), M)
  else
  some (some (.int x1), M)) := by exact rfl
set_option maxRecDepth 40000 in
set_option maxHeartbeats 4000000 in
theorem u_J9_max_f86c9 (n : Nat) (xs : Nat → Int32) (N d : Nat) (M : mmM) (x1 : Int64) (x2 : Int64) : mm_E n xs N (d + 1) 303 [.long x1, .long x2] M =
  (if (lg_cmp x1 x2) < 0 then
  some (some (.long x2), M)
  else
  some (some (.long x1), M)) := by exact rfl
set_option maxRecDepth 40000 in
set_option maxHeartbeats 4000000 in
theorem u_J9_min_7cf53 (n : Nat) (xs : Nat → Int32) (N d : Nat) (M : mmM) (x1 : Int32) (x2 : Int32) : mm_E n xs N (d + 1) 304 [.int x1, .int x2] M =
  (if x2 < x1 then
  some (some (.int x2), M)
  else
  some (some (.int x1), M)) := by exact rfl
set_option maxRecDepth 40000 in
set_option maxHeartbeats 4000000 in
theorem u_J9_min_f86c9 (n : Nat) (xs : Nat → Int32) (N d : Nat) (M : mmM) (x1 : Int64) (x2 : Int64) : mm_E n xs N (d + 1) 305 [.long x1, .long x2] M =
  (if 0 < (lg_cmp x1 x2) then
  some (some (.long x2), M)
  else
  some (some (.long x1), M)) := by exact rfl
noncomputable def lp_J7_fill_53178 (n : Nat) (xs : Nat → Int32) (N d f t : Nat) : mmK := mm_lp (mm_Y n xs) (mm_E n xs N d) cd_J7_fill_53178.1 cd_J7_fill_53178.2.1 f t
set_option maxRecDepth 40000 in
set_option maxHeartbeats 4000000 in
theorem u_J7_fill_53178 (n : Nat) (xs : Nat → Int32) (N d : Nat) (M : mmM) (x1 : Nat) (x2 : Int32) : mm_E n xs N (d + 1) 306 [.ref x1, .int x2] M =
  (match mm_s (mm_Y n xs) M x1 with
  | .inl _ => none
  | .inr q1 => cond (Nat.ble (q1.1 + 1) 6 && (!Nat.beq q1.1 2 || Nat.blt x1 16)) (lp_J7_fill_53178 n xs N d N 5 [some (.ref x1), some (.int x2), some (.int (0 : Int32)), some (.int (Int32.ofNat q1.2))] [] M) none) := by exact rfl
set_option maxRecDepth 40000 in
set_option maxHeartbeats 4000000 in
theorem lu_J7_fill_53178_5 (n : Nat) (xs : Nat → Int32) (N d f : Nat) (M : mmM) (y0 : Nat) (y1 : Int32) (y2 : Int32) (y3 : Int32) : lp_J7_fill_53178 n xs N d (f + 1) 5 [some (.ref y0), some (.int y1), some (.int y2), some (.int y3)] [] M =
  (if y3 ≤ y2 then
  some (none, M)
  else
  ((mm_arr (mm_s (mm_Y n xs) M y0) 0).bind fun n2 =>
    (cond (mm_inb y2 n2 && Nat.ble 16 y0)
    (lp_J7_fill_53178 n xs N d f 5 [some (.ref y0), some (.int y1), some (.int (y2 + (1 : Int32))), some (.int y3)] [] (mm_wI M y0 y2.toNatClampNeg y1)) none))) := by exact rfl
set_option maxRecDepth 40000 in
set_option maxHeartbeats 4000000 in
theorem u_J7_copyOf_59c91 (n : Nat) (xs : Nat → Int32) (N d : Nat) (M : mmM) (x1 : Nat) (x2 : Int32) : mm_E n xs N (d + 1) 307 [.ref x1, .int x2] M =
  (match mm_s (mm_Y n xs) M x1 with
  | .inl _ => none
  | .inr q1 => cond (Nat.ble (q1.1 + 1) 6 && (!Nat.beq q1.1 2 || Nat.blt x1 16)) (if x2 = (Int32.ofNat q1.2) then
    none
    else
    (cond (Nat.ble 87 (mm_n M) && (!decide (x2 < 0) && Nat.ble x2.toNatClampNeg 65536))
      (match mm_s (mm_Y n xs) (mm_new M (.inr (0, x2.toNatClampNeg)) x2.toNatClampNeg) x1 with
        | .inl _ => none
        | .inr q2 => cond (Nat.ble (q2.1 + 1) 6 && (!Nat.beq q2.1 2 || Nat.blt x1 16)) ((mm_aI (mm_E n xs N d 304 [.int (Int32.ofNat q2.2), .int x2] (mm_new M (.inr (0, x2.toNatClampNeg)) x2.toNatClampNeg))).bind fun p3 =>
          ((mm_arr (mm_s (mm_Y n xs) p3.2 x1) 0).bind fun n4 => ((mm_arr (mm_s (mm_Y n xs) p3.2 (mm_n M)) 0).bind fun n5 => (cond (Nat.ble (mm_cat []) 8 && (Nat.ble 16 x1 && (Nat.ble 16 (mm_n M) && (!decide (p3.1 < 0) && (!decide ((0 : Int32) < 0) && (!decide ((0 : Int32) < 0) && (Nat.ble ((0 : Int32).toNatClampNeg + p3.1.toNatClampNeg) n4 && Nat.ble ((0 : Int32).toNatClampNeg + p3.1.toNatClampNeg) n5)))))))
          (some (some (.ref (mm_n M)), (mm_wR p3.2 (mm_n M) (va_cpy (mm_I p3.2 x1) (mm_I p3.2 (mm_n M)) (0 : Int32).toNatClampNeg (0 : Int32).toNatClampNeg p3.1.toNatClampNeg)))) none)))) none) none)) none) := by exact rfl
