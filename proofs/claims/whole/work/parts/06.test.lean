noncomputable def lp_X12_look (n : Nat) (xs : Nat → Int32) (N d f t : Nat) : mmK := mm_lp (mm_Y n xs) (mm_E n xs N d) cd_X12_look.1 cd_X12_look.2.1 f t
theorem u_X12_look (n : Nat) (xs : Nat → Int32) (N d : Nat) (M : mmM)  : mm_E n xs N (d + 1) 187 [.ref 60] M =
  ((mm_aI (mm_E n xs N d 186 [.ref 60] M)).bind fun p1 =>
  (if p1.1 = (32 : Int32) then
  (lp_X12_look n xs N d N 0 [some (.ref 60)] [] (mm_wI p1.2 60 3 ((mm_I p1.2 60 3) + (1 : Int32))))
  else
  ((mm_aI (mm_E n xs N d 186 [.ref 60] p1.2)).bind fun p2 =>
    some (some (.int p2.1), p2.2)))) := by rfl
theorem lu_X12_look_0 (n : Nat) (xs : Nat → Int32) (N d f : Nat) (M : mmM)  : lp_X12_look n xs N d (f + 1) 0 [some (.ref 60)] [] M =
  ((mm_aI (mm_E n xs N d 186 [.ref 60] M)).bind fun p3 =>
  (if p3.1 = (32 : Int32) then
  (lp_X12_look n xs N d f 0 [some (.ref 60)] [] (mm_wI p3.2 60 3 ((mm_I p3.2 60 3) + (1 : Int32))))
  else
  ((mm_aI (mm_E n xs N d 186 [.ref 60] p3.2)).bind fun p4 =>
    some (some (.int p4.1), p4.2)))) := by rfl
theorem u_X12_here (n : Nat) (xs : Nat → Int32) (N d : Nat) (M : mmM)  : mm_E n xs N (d + 1) 186 [.ref 60] M =
  (if (mm_I M 60 2) ≤ (mm_I M 60 3) then
  some (some (.int (-1 : Int32)), M)
  else
  (cond (mm_inb (mm_I M 60 3) 240)
    (some (some (.int (mm_I M 61 ((mm_I M 60 3).toNatClampNeg))), M)) none)) := by rfl
theorem u_X11_strokesLeft (n : Nat) (xs : Nat → Int32) (N d : Nat) (M : mmM) (x1 : Int32) : mm_E n xs N (d + 1) 113 [.ref 16, .int x1] M =
  ((mm_aI (mm_E n xs N d 94 [.ref 32, .int (1 : Int32), .int x1, .int (1 : Int32)] M)).bind fun p1 =>
  ((mm_aI (mm_E n xs N d 4 [.ref 35, .int x1] p1.2)).bind fun p2 =>
  some (some (.int (p1.1 - p2.1)), p2.2))) := by rfl
theorem u_X11_rule (n : Nat) (xs : Nat → Int32) (N d : Nat) (M : mmM) (x1 : Int32) : mm_E n xs N (d + 1) 105 [.ref 16, .int x1] M =
  (if (mm_I M 16 16) = 0 then
  some (some (.int (-1 : Int32)), M)
  else
  (if x1 = 0 then
    ((mm_aI (mm_E n xs N d 94 [.ref 32, .int (0 : Int32), .int (0 : Int32), .int x1] M)).bind fun p1 =>
      some (some (.int p1.1), p1.2))
    else if x1 = 1 then
    some (some (.int (mm_I M 35 4)), M)
    else if x1 = 2 then
    ((mm_aI (mm_E n xs N d 94 [.ref 32, .int (0 : Int32), .int (0 : Int32), .int x1] M)).bind fun p2 =>
      some (some (.int p2.1), p2.2))
    else if x1 = 3 then
    some (some (.int (mm_I M 35 5)), M)
    else some (some (.int (-1 : Int32)), M))) := by rfl
theorem u_X12_strokeNow (n : Nat) (xs : Nat → Int32) (N d : Nat) (M : mmM) (x1 : Int32) : mm_E n xs N (d + 1) 227 [.ref 60, .int x1] M =
  (cond (mm_inb ((0 : Int32) + x1) 198)
  (cond (mm_inb (8 : Int32) 198)
    (cond (mm_inb (9 : Int32) 198)
      (cond (mm_inb (12 : Int32) 198)
        ((mm_aI (mm_E n xs N d 226 [.ref 60, .int (mm_I M 77 (((0 : Int32) + x1).toNatClampNeg)), .int (mm_I M 77 ((8 : Int32).toNatClampNeg)), .int (mm_I M 77 ((9 : Int32).toNatClampNeg)), .int (mm_I M 77 ((12 : Int32).toNatClampNeg))] M)).bind fun p1 =>
          (cond (mm_inb (8 : Int32) 198 && Nat.ble 16 77)
          (cond (mm_inb (9 : Int32) 198)
            (cond (mm_inb (9 : Int32) 198 && Nat.ble 16 77)
              (cond (mm_inb ((4 : Int32) + x1) 198)
                (cond (mm_inb ((4 : Int32) + x1) 198 && Nat.ble 16 77)
                  (some (none, (mm_wI (mm_wI (mm_wI p1.2 77 ((8 : Int32).toNatClampNeg) p1.1) 77 ((9 : Int32).toNatClampNeg) ((mm_I (mm_wI p1.2 77 ((8 : Int32).toNatClampNeg) p1.1) 77 ((9 : Int32).toNatClampNeg)) + (1 : Int32))) 77 (((4 : Int32) + x1).toNatClampNeg) ((mm_I (mm_wI (mm_wI p1.2 77 ((8 : Int32).toNatClampNeg) p1.1) 77 ((9 : Int32).toNatClampNeg) ((mm_I (mm_wI p1.2 77 ((8 : Int32).toNatClampNeg) p1.1) 77 ((9 : Int32).toNatClampNeg)) + (1 : Int32))) 77 (((4 : Int32) + x1).toNatClampNeg)) + (1 : Int32))))) none) none) none) none) none)) none) none) none) none) := by rfl
noncomputable def lp_X12_strokesNow (n : Nat) (xs : Nat → Int32) (N d f t : Nat) : mmK := mm_lp (mm_Y n xs) (mm_E n xs N d) cd_X12_strokesNow.1 cd_X12_strokesNow.2.1 f t
theorem u_X12_strokesNow (n : Nat) (xs : Nat → Int32) (N d : Nat) (M : mmM) (x1 : Int32) (x2 : Int32) : mm_E n xs N (d + 1) 228 [.ref 60, .int x1, .int x2] M =
  (lp_X12_strokesNow n xs N d N 2 [some (.ref 60), some (.int x1), some (.int x2), some (.int (0 : Int32))] [] M) := by rfl
theorem lu_X12_strokesNow_2 (n : Nat) (xs : Nat → Int32) (N d f : Nat) (M : mmM) (y1 : Int32) (y2 : Int32) (y3 : Int32) : lp_X12_strokesNow n xs N d (f + 1) 2 [some (.ref 60), some (.int y1), some (.int y2), some (.int y3)] [] M =
  (if y2 ≤ y3 then
  some (none, M)
  else
  ((mm_aV (mm_E n xs N d 227 [.ref 60, .int y1] M)).bind fun p1 =>
    (lp_X12_strokesNow n xs N d f 2 [some (.ref 60), some (.int y1), some (.int y2), some (.int (y3 + (1 : Int32)))] [] p1))) := by rfl
noncomputable def lp_X9_look (n : Nat) (xs : Nat → Int32) (N d f t : Nat) : mmK := mm_lp (mm_Y n xs) (mm_E n xs N d) cd_X9_look.1 cd_X9_look.2.1 f t
theorem u_X9_look (n : Nat) (xs : Nat → Int32) (N d : Nat) (M : mmM)  : mm_E n xs N (d + 1) 76 [.ref 17] M =
  (if (mm_I M 17 2) < 0 then
  (if (mm_I M 17 2) < 0 then
    some (some (.int (-1 : Int32)), M)
    else
    (if (mm_I M 17 1) ≤ (mm_I M 17 2) then
      some (some (.int (-1 : Int32)), M)
      else
      (if (Int32.ofNat 240) ≤ (mm_I M 17 2) then
        some (some (.int (-1 : Int32)), M)
        else
        (cond (mm_inb (mm_I M 17 2) 240)
          (some (some (.int (mm_I M 18 ((mm_I M 17 2).toNatClampNeg))), M)) none))))
  else
  (if (mm_I M 17 1) ≤ (mm_I M 17 2) then
    (if (mm_I M 17 2) < 0 then
      some (some (.int (-1 : Int32)), M)
      else
      (if (mm_I M 17 1) ≤ (mm_I M 17 2) then
        some (some (.int (-1 : Int32)), M)
        else
        (if (Int32.ofNat 240) ≤ (mm_I M 17 2) then
          some (some (.int (-1 : Int32)), M)
          else
          (cond (mm_inb (mm_I M 17 2) 240)
            (some (some (.int (mm_I M 18 ((mm_I M 17 2).toNatClampNeg))), M)) none))))
    else
    (if (Int32.ofNat 240) ≤ (mm_I M 17 2) then
      (if (mm_I M 17 2) < 0 then
        some (some (.int (-1 : Int32)), M)
        else
        (if (mm_I M 17 1) ≤ (mm_I M 17 2) then
          some (some (.int (-1 : Int32)), M)
          else
          (if (Int32.ofNat 240) ≤ (mm_I M 17 2) then
            some (some (.int (-1 : Int32)), M)
            else
            (cond (mm_inb (mm_I M 17 2) 240)
              (some (some (.int (mm_I M 18 ((mm_I M 17 2).toNatClampNeg))), M)) none))))
      else
      (cond (mm_inb (mm_I M 17 2) 240)
        (if (mm_I M 18 ((mm_I M 17 2).toNatClampNeg)) = (32 : Int32) then
          (lp_X9_look n xs N d N 0 [some (.ref 17)] [] (mm_wI M 17 2 ((mm_I M 17 2) + (1 : Int32))))
          else
          (if (mm_I M 17 2) < 0 then
            some (some (.int (-1 : Int32)), M)
            else
            (if (mm_I M 17 1) ≤ (mm_I M 17 2) then
              some (some (.int (-1 : Int32)), M)
              else
              (if (Int32.ofNat 240) ≤ (mm_I M 17 2) then
                some (some (.int (-1 : Int32)), M)
                else
                (cond (mm_inb (mm_I M 17 2) 240)
                  (some (some (.int (mm_I M 18 ((mm_I M 17 2).toNatClampNeg))), M)) none))))) none)))) := by rfl
theorem lu_X9_look_0 (n : Nat) (xs : Nat → Int32) (N d f : Nat) (M : mmM)  : lp_X9_look n xs N d (f + 1) 0 [some (.ref 17)] [] M =
  (if (mm_I M 17 2) < 0 then
  (if (mm_I M 17 2) < 0 then
    some (some (.int (-1 : Int32)), M)
    else
    (if (mm_I M 17 1) ≤ (mm_I M 17 2) then
      some (some (.int (-1 : Int32)), M)
      else
      (if (Int32.ofNat 240) ≤ (mm_I M 17 2) then
        some (some (.int (-1 : Int32)), M)
        else
        (cond (mm_inb (mm_I M 17 2) 240)
          (some (some (.int (mm_I M 18 ((mm_I M 17 2).toNatClampNeg))), M)) none))))
  else
  (if (mm_I M 17 1) ≤ (mm_I M 17 2) then
    (if (mm_I M 17 2) < 0 then
      some (some (.int (-1 : Int32)), M)
      else
      (if (mm_I M 17 1) ≤ (mm_I M 17 2) then
        some (some (.int (-1 : Int32)), M)
        else
        (if (Int32.ofNat 240) ≤ (mm_I M 17 2) then
          some (some (.int (-1 : Int32)), M)
          else
          (cond (mm_inb (mm_I M 17 2) 240)
            (some (some (.int (mm_I M 18 ((mm_I M 17 2).toNatClampNeg))), M)) none))))
    else
    (if (Int32.ofNat 240) ≤ (mm_I M 17 2) then
      (if (mm_I M 17 2) < 0 then
        some (some (.int (-1 : Int32)), M)
        else
        (if (mm_I M 17 1) ≤ (mm_I M 17 2) then
          some (some (.int (-1 : Int32)), M)
          else
          (if (Int32.ofNat 240) ≤ (mm_I M 17 2) then
            some (some (.int (-1 : Int32)), M)
            else
            (cond (mm_inb (mm_I M 17 2) 240)
              (some (some (.int (mm_I M 18 ((mm_I M 17 2).toNatClampNeg))), M)) none))))
      else
      (cond (mm_inb (mm_I M 17 2) 240)
        (if (mm_I M 18 ((mm_I M 17 2).toNatClampNeg)) = (32 : Int32) then
          (lp_X9_look n xs N d f 0 [some (.ref 17)] [] (mm_wI M 17 2 ((mm_I M 17 2) + (1 : Int32))))
          else
          (if (mm_I M 17 2) < 0 then
            some (some (.int (-1 : Int32)), M)
            else
            (if (mm_I M 17 1) ≤ (mm_I M 17 2) then
              some (some (.int (-1 : Int32)), M)
              else
              (if (Int32.ofNat 240) ≤ (mm_I M 17 2) then
                some (some (.int (-1 : Int32)), M)
                else
                (cond (mm_inb (mm_I M 17 2) 240)
                  (some (some (.int (mm_I M 18 ((mm_I M 17 2).toNatClampNeg))), M)) none))))) none)))) := by rfl
