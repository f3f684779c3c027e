set_option maxRecDepth 40000 in
set_option maxHeartbeats 4000000 in
theorem u_X11_beginDuchy (n : Nat) (xs : Nat → Int32) (N d : Nat) (M : mmM)  : mm_E n xs N (d + 1) 103 [.ref 16] M =
  ((mm_aR (mm_E n xs N d 12 [.ref 19] M)).bind fun p1 =>
  ((mm_aV (mm_E n xs N d 85 [.ref 32, .ref p1.1] p1.2)).bind fun p2 =>
  ((mm_aV (mm_E n xs N d 1 [.ref 35, .ref 32] p2)).bind fun p3 =>
  ((mm_aV (mm_E n xs N d 51 [.ref 38] p3)).bind fun p4 =>
  ((mm_aV (mm_E n xs N d 65 [.ref 47] p4)).bind fun p5 =>
  some (none, (mm_wI (mm_wI p5 16 16 (1 : Int32)) 16 17 (0 : Int32)))))))) := by exact rfl
set_option maxRecDepth 40000 in
set_option maxHeartbeats 4000000 in
theorem u_X11_law (n : Nat) (xs : Nat → Int32) (N d : Nat) (M : mmM) (x1 : Int32) : mm_E n xs N (d + 1) 104 [.ref 16, .int x1] M =
  ((mm_aI (mm_E n xs N d 38 [.ref 25, .int x1] M)).bind fun p1 =>
  (if p1.1 = 0 then some (some (.int 0), p1.2) else if p1.1 = 1 then some (some (.int 1), p1.2) else none)) := by exact rfl
set_option maxRecDepth 40000 in
set_option maxHeartbeats 4000000 in
theorem u_X11_rule (n : Nat) (xs : Nat → Int32) (N d : Nat) (M : mmM) (x1 : Int32) : mm_E n xs N (d + 1) 105 [.ref 16, .int x1] M =
  (if (mm_I M 16 16) = 0 then
  some (some (.int (-1 : Int32)), M)
  else
  (if x1 = 0 then
    ((mm_aI (mm_E n xs N d 94 [.ref 32, .int (0 : Int32), .int (0 : Int32), .int x1] M)).bind fun p1 =>
      some (some (.int p1.1), p1.2))
    else if x1 = 1 then
    some (some (.int (mm_I M 35 4)), M)
    else if x1 = 2 then
    ((mm_aI (mm_E n xs N d 94 [.ref 32, .int (0 : Int32), .int (0 : Int32), .int x1] M)).bind fun p2 =>
      some (some (.int p2.1), p2.2))
    else if x1 = 3 then
    some (some (.int (mm_I M 35 5)), M)
    else some (some (.int (-1 : Int32)), M))) := by exact rfl
set_option maxRecDepth 40000 in
set_option maxHeartbeats 4000000 in
theorem u_X11_cook (n : Nat) (xs : Nat → Int32) (N d : Nat) (M : mmM) (x1 : Int32) (x2 : Int32) : mm_E n xs N (d + 1) 106 [.ref 16, .int x1, .int x2] M =
  ((mm_aI (mm_E n xs N d 108 [.ref 16, .int x1] M)).bind fun p1 =>
  (if p1.1 = 0 then
  some (some (.int (-1 : Int32)), p1.2)
  else
  (if x2 = 0 then
    ((mm_aI (mm_E n xs N d 5 [.ref 35, .int x1] p1.2)).bind fun p2 =>
      some (some (.int p2.1), p2.2))
    else if x2 = 1 then
    ((mm_aI (mm_E n xs N d 94 [.ref 32, .int (1 : Int32), .int x1, .int (1 : Int32)] p1.2)).bind fun p3 =>
      some (some (.int p3.1), p3.2))
    else if x2 = 2 then
    ((mm_aI (mm_E n xs N d 4 [.ref 35, .int x1] p1.2)).bind fun p4 =>
      some (some (.int p4.1), p4.2))
    else some (some (.int (-1 : Int32)), p1.2)))) := by exact rfl
set_option maxRecDepth 40000 in
set_option maxHeartbeats 4000000 in
theorem u_X11_minister (n : Nat) (xs : Nat → Int32) (N d : Nat) (M : mmM) (x1 : Int32) (x2 : Int32) : mm_E n xs N (d + 1) 107 [.ref 16, .int x1, .int x2] M =
  ((mm_aI (mm_E n xs N d 110 [.ref 16, .int x1] M)).bind fun p1 =>
  (if p1.1 = 0 then
  none
  else
  ((mm_aI (mm_E n xs N d 176 [.int (0 : Int32), .int x2, .int (4 : Int32)] p1.2)).bind fun p2 =>
    (if p2.1 = 0 then
    none
    else
    (if x2 = (4 : Int32) then
      ((mm_aI (mm_E n xs N d 111 [.ref 16, .int x1] p2.2)).bind fun p3 =>
        (if p3.1 = 0 then
        some (some (.int (0 : Int32)), p3.2)
        else
        some (some (.int (1 : Int32)), p3.2)))
      else
      ((mm_aI (mm_E n xs N d 94 [.ref 32, .int (2 : Int32), .int x1, .int x2] p2.2)).bind fun p4 =>
        some (some (.int p4.1), p4.2))))))) := by exact rfl
set_option maxRecDepth 40000 in
set_option maxHeartbeats 4000000 in
theorem u_X11_hasCook (n : Nat) (xs : Nat → Int32) (N d : Nat) (M : mmM) (x1 : Int32) : mm_E n xs N (d + 1) 108 [.ref 16, .int x1] M =
  (if (mm_I M 16 16) = 0 then
  some (some (.int (0 : Int32)), M)
  else
  ((mm_aI (mm_E n xs N d 86 [.ref 32, .int (1 : Int32)] M)).bind fun p1 =>
    ((mm_aI (mm_E n xs N d 176 [.int (0 : Int32), .int x1, .int (p1.1 - (1 : Int32))] p1.2)).bind fun p2 =>
    (if p2.1 = 0 then
    some (some (.int (0 : Int32)), p2.2)
    else
    some (some (.int (1 : Int32)), p2.2))))) := by exact rfl
set_option maxRecDepth 40000 in
set_option maxHeartbeats 4000000 in
theorem u_X11_hasTwoCooks (n : Nat) (xs : Nat → Int32) (N d : Nat) (M : mmM) (x1 : Int32) (x2 : Int32) : mm_E n xs N (d + 1) 109 [.ref 16, .int x1, .int x2] M =
  ((mm_aI (mm_E n xs N d 108 [.ref 16, .int x1] M)).bind fun p1 =>
  (if p1.1 = 0 then
  some (some (.int (0 : Int32)), p1.2)
  else
  ((mm_aI (mm_E n xs N d 108 [.ref 16, .int x2] p1.2)).bind fun p2 =>
    (if p2.1 = 0 then
    some (some (.int (0 : Int32)), p2.2)
    else
    (if x1 = x2 then
      some (some (.int (0 : Int32)), p2.2)
      else
      some (some (.int (1 : Int32)), p2.2)))))) := by exact rfl
set_option maxRecDepth 40000 in
set_option maxHeartbeats 4000000 in
theorem u_X11_hasMinister (n : Nat) (xs : Nat → Int32) (N d : Nat) (M : mmM) (x1 : Int32) : mm_E n xs N (d + 1) 110 [.ref 16, .int x1] M =
  (if (mm_I M 16 16) = 0 then
  some (some (.int (0 : Int32)), M)
  else
  ((mm_aI (mm_E n xs N d 86 [.ref 32, .int (2 : Int32)] M)).bind fun p1 =>
    ((mm_aI (mm_E n xs N d 176 [.int (0 : Int32), .int x1, .int (p1.1 - (1 : Int32))] p1.2)).bind fun p2 =>
    (if p2.1 = 0 then
    some (some (.int (0 : Int32)), p2.2)
    else
    some (some (.int (1 : Int32)), p2.2))))) := by exact rfl
set_option maxRecDepth 40000 in
set_option maxHeartbeats 4000000 in
theorem u_X11_isInside (n : Nat) (xs : Nat → Int32) (N d : Nat) (M : mmM) (x1 : Int32) : mm_E n xs N (d + 1) 111 [.ref 16, .int x1] M =
  (if (((mm_I M 35 2) >>> (x1 &&& 31)) &&& (1 : Int32)) = 0 then
  some (some (.int (0 : Int32)), M)
  else
  some (some (.int (1 : Int32)), M)) := by exact rfl
noncomputable def lp_X11_sumInside (n : Nat) (xs : Nat → Int32) (N d f t : Nat) : mmK := mm_lp (mm_Y n xs) (mm_E n xs N d) cd_X11_sumInside.1 cd_X11_sumInside.2.1 f t
set_option maxRecDepth 40000 in
set_option maxHeartbeats 4000000 in
theorem u_X11_sumInside (n : Nat) (xs : Nat → Int32) (N d : Nat) (M : mmM) (x1 : Int32) : mm_E n xs N (d + 1) 112 [.ref 16, .int x1] M =
  (lp_X11_sumInside n xs N d N 4 [some (.ref 16), some (.int x1), some (.int (0 : Int32)), some (.int (0 : Int32))] [] M) := by exact rfl
set_option maxRecDepth 40000 in
set_option maxHeartbeats 4000000 in
theorem lu_X11_sumInside_4 (n : Nat) (xs : Nat → Int32) (N d f : Nat) (M : mmM) (y1 : Int32) (y2 : Int32) (y3 : Int32) : lp_X11_sumInside n xs N d (f + 1) 4 [some (.ref 16), some (.int y1), some (.int y2), some (.int y3)] [] M =
  ((mm_aI (mm_E n xs N d 86 [.ref 32, .int (2 : Int32)] M)).bind fun p1 =>
  (if p1.1 ≤ y3 then
  some (some (.int y2), p1.2)
  else
  ((mm_aI (mm_E n xs N d 111 [.ref 16, .int y3] p1.2)).bind fun p2 =>
    (if p2.1 = 0 then
    (lp_X11_sumInside n xs N d f 4 [some (.ref 16), some (.int y1), some (.int (y2 + (0 : Int32))), some (.int (y3 + (1 : Int32)))] [] p2.2)
    else
    ((mm_aI (mm_E n xs N d 94 [.ref 32, .int (2 : Int32), .int y3, .int y1] p2.2)).bind fun p3 =>
      (lp_X11_sumInside n xs N d f 4 [some (.ref 16), some (.int y1), some (.int (y2 + p3.1)), some (.int (y3 + (1 : Int32)))] [] p3.2)))))) := by exact rfl
set_option maxRecDepth 40000 in
set_option maxHeartbeats 4000000 in
theorem u_X11_strokesLeft (n : Nat) (xs : Nat → Int32) (N d : Nat) (M : mmM) (x1 : Int32) : mm_E n xs N (d + 1) 113 [.ref 16, .int x1] M =
  ((mm_aI (mm_E n xs N d 94 [.ref 32, .int (1 : Int32), .int x1, .int (1 : Int32)] M)).bind fun p1 =>
  ((mm_aI (mm_E n xs N d 4 [.ref 35, .int x1] p1.2)).bind fun p2 =>
  some (some (.int (p1.1 - p2.1)), p2.2))) := by exact rfl
set_option maxRecDepth 40000 in
set_option maxHeartbeats 4000000 in
theorem u_X11_canFold (n : Nat) (xs : Nat → Int32) (N d : Nat) (M : mmM) (x1 : Int32) : mm_E n xs N (d + 1) 114 [.ref 16, .int x1] M =
  ((mm_aI (mm_E n xs N d 111 [.ref 16, .int x1] M)).bind fun p1 =>
  (if p1.1 = 0 then
  ((mm_aI (mm_E n xs N d 94 [.ref 32, .int (2 : Int32), .int x1, .int (2 : Int32)] p1.2)).bind fun p2 =>
    (if (mm_I p1.2 35 0) < p2.1 then
    some (some (.int (0 : Int32)), p2.2)
    else
    some (some (.int (1 : Int32)), p2.2)))
  else
  some (some (.int (0 : Int32)), p1.2))) := by exact rfl
noncomputable def lp_X11_couldFold (n : Nat) (xs : Nat → Int32) (N d f t : Nat) : mmK := mm_lp (mm_Y n xs) (mm_E n xs N d) cd_X11_couldFold.1 cd_X11_couldFold.2.1 f t
set_option maxRecDepth 40000 in
set_option maxHeartbeats 4000000 in
theorem u_X11_couldFold (n : Nat) (xs : Nat → Int32) (N d : Nat) (M : mmM)  : mm_E n xs N (d + 1) 115 [.ref 16] M =
  (lp_X11_couldFold n xs N d N 4 [some (.ref 16), some (.int (0 : Int32)), some (.int (0 : Int32))] [] M) := by exact rfl
set_option maxRecDepth 40000 in
set_option maxHeartbeats 4000000 in
theorem lu_X11_couldFold_4 (n : Nat) (xs : Nat → Int32) (N d f : Nat) (M : mmM) (y1 : Int32) (y2 : Int32) : lp_X11_couldFold n xs N d (f + 1) 4 [some (.ref 16), some (.int y1), some (.int y2)] [] M =
  ((mm_aI (mm_E n xs N d 86 [.ref 32, .int (2 : Int32)] M)).bind fun p1 =>
  (if p1.1 ≤ y2 then
  some (some (.int y1), p1.2)
  else
  ((mm_aI (mm_E n xs N d 114 [.ref 16, .int y2] p1.2)).bind fun p2 =>
    (if p2.1 = 0 then
    (lp_X11_couldFold n xs N d f 4 [some (.ref 16), some (.int (y1 ||| (0 : Int32))), some (.int (y2 + (1 : Int32)))] [] p2.2)
    else
    (lp_X11_couldFold n xs N d f 4 [some (.ref 16), some (.int (y1 ||| ((1 : Int32) <<< (y2 &&& 31)))), some (.int (y2 + (1 : Int32)))] [] p2.2))))) := by exact rfl
set_option maxRecDepth 40000 in
set_option maxHeartbeats 4000000 in
theorem u_X11_whisked (n : Nat) (xs : Nat → Int32) (N d : Nat) (M : mmM) (x1 : Int32) (x2 : Int32) (x3 : Int32) (x4 : Int32) : mm_E n xs N (d + 1) 116 [.ref 16, .int x1, .int x2, .int x3, .int x4] M =
  ((mm_aI (mm_E n xs N d 94 [.ref 32, .int (0 : Int32), .int (0 : Int32), .int (0 : Int32)] M)).bind fun p1 =>
  ((mm_aI (mm_E n xs N d 94 [.ref 32, .int (0 : Int32), .int (0 : Int32), .int (2 : Int32)] p1.2)).bind fun p2 =>
  ((mm_aI (mm_E n xs N d 36 [.ref 25] p2.2)).bind fun p3 =>
  (if p3.1 = (-1 : Int32) then
  (if (10 : Int32) = 0 then none else
    ((mm_aI (mm_E n xs N d 178 [.int (-9 : Int32), .int (((x1 + ((2 : Int32) * p2.1)) - x4) - ((3 : Int32) * (x3 / (10 : Int32)))), .int (9 : Int32)] p3.2)).bind fun p4 =>
    ((mm_aI (mm_E n xs N d 178 [.int (0 : Int32), .int (x2 + p4.1), .int (99 : Int32)] p4.2)).bind fun p5 =>
    some (some (.int p5.1), p5.2))))
  else
  ((mm_aI (mm_E n xs N d 39 [.ref 25, .int x1, .int x2, .int x3, .int x4, .int p1.1, .int p2.1] p3.2)).bind fun p6 =>
    ((mm_aI (mm_E n xs N d 178 [.int (-9 : Int32), .int p6.1, .int (9 : Int32)] p6.2)).bind fun p7 =>
    ((mm_aI (mm_E n xs N d 178 [.int (0 : Int32), .int (x2 + p7.1), .int (99 : Int32)] p7.2)).bind fun p8 =>
    some (some (.int p8.1), p8.2)))))))) := by exact rfl
noncomputable def lp_X11_whisk (n : Nat) (xs : Nat → Int32) (N d f t : Nat) : mmK := mm_lp (mm_Y n xs) (mm_E n xs N d) cd_X11_whisk.1 cd_X11_whisk.2.1 f t
set_option maxRecDepth 40000 in
set_option maxHeartbeats 4000000 in
theorem u_X11_whisk (n : Nat) (xs : Nat → Int32) (N d : Nat) (M : mmM) (x1 : Int32) (x2 : Int32) : mm_E n xs N (d + 1) 117 [.ref 16, .int x1, .int x2] M =
  ((mm_aI (mm_E n xs N d 5 [.ref 35, .int x1] M)).bind fun p1 =>
  (lp_X11_whisk n xs N d N 12 [some (.ref 16), some (.int x1), some (.int x2), some (.int p1.1), some (.int (0 : Int32))] [] p1.2)) := by exact rfl
set_option maxRecDepth 40000 in
set_option maxHeartbeats 4000000 in
theorem lu_X11_whisk_12 (n : Nat) (xs : Nat → Int32) (N d f : Nat) (M : mmM) (y1 : Int32) (y2 : Int32) (y3 : Int32) (y4 : Int32) : lp_X11_whisk n xs N d (f + 1) 12 [some (.ref 16), some (.int y1), some (.int y2), some (.int y3), some (.int y4)] [] M =
  (if y2 ≤ y4 then
  ((mm_aV (mm_E n xs N d 6 [.ref 35, .int y1, .int y2] M)).bind fun p2 =>
    some (none, p2))
  else
  ((mm_aI (mm_E n xs N d 116 [.ref 16, .int y3, .int (mm_I M 35 0), .int (mm_I M 35 1), .int (mm_I M 35 4)] M)).bind fun p3 =>
    (lp_X11_whisk n xs N d f 12 [some (.ref 16), some (.int y1), some (.int y2), some (.int y3), some (.int (y4 + (1 : Int32)))] [] (mm_wI (mm_wI p3.2 35 0 p3.1) 35 1 ((mm_I p3.2 35 1) + (1 : Int32)))))) := by exact rfl
set_option maxRecDepth 40000 in
set_option maxHeartbeats 4000000 in
theorem u_X11_foldIn (n : Nat) (xs : Nat → Int32) (N d : Nat) (M : mmM) (x1 : Int32) : mm_E n xs N (d + 1) 118 [.ref 16, .int x1] M =
  ((mm_aI (mm_E n xs N d 94 [.ref 32, .int (2 : Int32), .int x1, .int (3 : Int32)] M)).bind fun p1 =>
  ((mm_aI (mm_E n xs N d 302 [.int (0 : Int32), .int ((mm_I M 35 0) - p1.1)] p1.2)).bind fun p2 =>
  some (none, (mm_wI (mm_wI p2.2 35 0 p2.1) 35 2 ((mm_I p2.2 35 2) ||| ((1 : Int32) <<< (x1 &&& 31))))))) := by exact rfl
set_option maxRecDepth 40000 in
set_option maxHeartbeats 4000000 in
theorem u_X11_openDoor (n : Nat) (xs : Nat → Int32) (N d : Nat) (M : mmM)  : mm_E n xs N (d + 1) 119 [.ref 16] M =
  (if (2 : Int32) = 0 then none else
  ((mm_aV (mm_E n xs N d 123 [.ref 16] (mm_wI M 35 0 ((mm_I M 35 0) / (2 : Int32))))).bind fun p1 =>
  some (none, p1))) := by exact rfl
set_option maxRecDepth 40000 in
set_option maxHeartbeats 4000000 in
theorem u_X11_passHour (n : Nat) (xs : Nat → Int32) (N d : Nat) (M : mmM)  : mm_E n xs N (d + 1) 120 [.ref 16] M =
  ((mm_aI (mm_E n xs N d 121 [.ref 16] M)).bind fun p1 =>
  ((mm_aI (mm_E n xs N d 122 [.int (mm_I M 35 0), .int p1.1] p1.2)).bind fun p2 =>
  ((mm_aV (mm_E n xs N d 123 [.ref 16] (mm_wI p2.2 35 0 p2.1))).bind fun p3 =>
  some (none, p3)))) := by exact rfl
set_option maxRecDepth 40000 in
set_option maxHeartbeats 4000000 in
theorem u_X11_sinksBy (n : Nat) (xs : Nat → Int32) (N d : Nat) (M : mmM)  : mm_E n xs N (d + 1) 121 [.ref 16] M =
  ((mm_aI (mm_E n xs N d 112 [.ref 16, .int (0 : Int32)] M)).bind fun p1 =>
  (if (4 : Int32) = 0 then none else
  ((mm_aI (mm_E n xs N d 94 [.ref 32, .int (0 : Int32), .int (0 : Int32), .int (0 : Int32)] p1.2)).bind fun p2 =>
  (if (3 : Int32) = 0 then none else
  ((mm_aI (mm_E n xs N d 302 [.int (0 : Int32), .int ((((1 : Int32) + (p2.1 / (3 : Int32))) + (p1.1 / (4 : Int32))) - (mm_I p2.2 35 3))] p2.2)).bind fun p3 =>
  some (some (.int p3.1), p3.2)))))) := by exact rfl
set_option maxRecDepth 40000 in
set_option maxHeartbeats 4000000 in
theorem u_X11_sunk (n : Nat) (xs : Nat → Int32) (N d : Nat) (M : mmM) (x1 : Int32) (x2 : Int32) : mm_E n xs N (d + 1) 122 [.int x1, .int x2] M =
  ((mm_aI (mm_E n xs N d 302 [.int (0 : Int32), .int (x1 - x2)] M)).bind fun p1 =>
  some (some (.int p1.1), p1.2)) := by exact rfl
set_option maxRecDepth 40000 in
set_option maxHeartbeats 4000000 in
theorem u_X11_fallIfFlat (n : Nat) (xs : Nat → Int32) (N d : Nat) (M : mmM)  : mm_E n xs N (d + 1) 123 [.ref 16] M =
  (if (mm_I M 35 0) = 0 then
  (if (mm_I M 35 2) = 0 then
    some (none, M)
    else
    some (none, (mm_wI (mm_wI M 35 2 (0 : Int32)) 35 7 ((mm_I M 35 7) + (1 : Int32)))))
  else
  some (none, M)) := by exact rfl
set_option maxRecDepth 40000 in
set_option maxHeartbeats 4000000 in
theorem u_X11_passDay (n : Nat) (xs : Nat → Int32) (N d : Nat) (M : mmM)  : mm_E n xs N (d + 1) 124 [.ref 16] M =
  ((mm_aI (mm_E n xs N d 112 [.ref 16, .int (1 : Int32)] M)).bind fun p1 =>
  ((mm_aI (mm_E n xs N d 304 [.int (9999 : Int32), .int ((mm_I M 35 6) + p1.1)] p1.2)).bind fun p2 =>
  ((mm_aI (mm_E n xs N d 304 [.int (999 : Int32), .int ((mm_I p2.2 35 5) + (2 : Int32))] (mm_wI p2.2 35 6 p2.1))).bind fun p3 =>
  ((mm_aV (mm_E n xs N d 45 [.ref 40, .int (mm_I p3.2 35 8), .int (mm_I p3.2 35 0), .int (mm_I p3.2 35 2), .int (mm_I p3.2 35 1)] (mm_wI p3.2 35 5 p3.1))).bind fun p4 =>
  ((mm_aV (mm_E n xs N d 2 [.ref 35] (mm_wI p4 35 8 ((mm_I p4 35 8) + (1 : Int32))))).bind fun p5 =>
  some (none, p5)))))) := by exact rfl
noncomputable def lp_X11_passDrawnDay (n : Nat) (xs : Nat → Int32) (N d f t : Nat) : mmK := mm_lp (mm_Y n xs) (mm_E n xs N d) cd_X11_passDrawnDay.1 cd_X11_passDrawnDay.2.1 f t
set_option maxRecDepth 40000 in
set_option maxHeartbeats 4000000 in
theorem u_X11_passDrawnDay (n : Nat) (xs : Nat → Int32) (N d : Nat) (M : mmM)  : mm_E n xs N (d + 1) 125 [.ref 16] M =
  ((mm_aI (mm_E n xs N d 86 [.ref 32, .int (1 : Int32)] M)).bind fun p1 =>
  ((mm_aI (mm_E n xs N d 10 [.ref 56, .int p1.1] p1.2)).bind fun p2 =>
  ((mm_aI (mm_E n xs N d 10 [.ref 56, .int (10 : Int32)] p2.2)).bind fun p3 =>
  ((mm_aI (mm_E n xs N d 113 [.ref 16, .int p2.1] p3.2)).bind fun p4 =>
  ((mm_aI (mm_E n xs N d 304 [.int (p3.1 + (5 : Int32)), .int p4.1] p4.2)).bind fun p5 =>
  ((mm_aV (mm_E n xs N d 117 [.ref 16, .int p2.1, .int p5.1] p5.2)).bind fun p6 =>
  ((mm_aI (mm_E n xs N d 86 [.ref 32, .int (2 : Int32)] p6)).bind fun p7 =>
  (lp_X11_passDrawnDay n xs N d N 54 [some (.ref 16), none, none, some (.int p7.1), some (.int (0 : Int32)), none] [] p7.2)))))))) := by exact rfl
set_option maxRecDepth 40000 in
set_option maxHeartbeats 4000000 in
theorem lu_X11_passDrawnDay_54 (n : Nat) (xs : Nat → Int32) (N d f : Nat) (M : mmM) (y3 : Int32) (y4 : Int32) : lp_X11_passDrawnDay n xs N d (f + 1) 54 [some (.ref 16), none, none, some (.int y3), some (.int y4), none] [] M =
  (if y3 ≤ y4 then
  ((mm_aI (mm_E n xs N d 10 [.ref 56, .int (10 : Int32)] M)).bind fun p8 =>
    (if (mm_I p8.2 16 18) ≤ p8.1 then
    ((mm_aV (mm_E n xs N d 124 [.ref 16] p8.2)).bind fun p9 =>
      some (none, p9))
    else
    ((mm_aV (mm_E n xs N d 119 [.ref 16] p8.2)).bind fun p10 =>
      ((mm_aV (mm_E n xs N d 124 [.ref 16] p10)).bind fun p11 =>
      some (none, p11)))))
  else
  ((mm_aI (mm_E n xs N d 10 [.ref 56, .int y3] M)).bind fun p12 =>
    ((mm_aI (mm_E n xs N d 114 [.ref 16, .int p12.1] p12.2)).bind fun p13 =>
    (if p13.1 = 0 then
    (lp_X11_passDrawnDay n xs N d f 54 [some (.ref 16), none, none, some (.int y3), some (.int (y4 + (1 : Int32))), none] [] p13.2)
    else
    ((mm_aV (mm_E n xs N d 118 [.ref 16, .int p12.1] p13.2)).bind fun p14 =>
      (lp_X11_passDrawnDay n xs N d f 54 [some (.ref 16), none, none, some (.int y3), some (.int (y4 + (1 : Int32))), none] [] p14)))))) := by exact rfl
set_option maxRecDepth 40000 in
set_option maxHeartbeats 4000000 in
theorem u_X11_refuse (n : Nat) (xs : Nat → Int32) (N d : Nat) (M : mmM) (x1 : Int32) : mm_E n xs N (d + 1) 126 [.ref 16, .int x1] M =
  ((mm_aI (mm_E n xs N d 176 [.int (0 : Int32), .int x1, .int ((Int32.ofNat 5) - (1 : Int32))] M)).bind fun p1 =>
  (if p1.1 = 0 then
  some (some (.int (-1 : Int32)), p1.2)
  else
  (cond (mm_inb x1 5)
    (cond (mm_inb x1 5 && Nat.ble 16 57)
      (some (some (.int (-1 : Int32)), (mm_wI p1.2 57 x1.toNatClampNeg ((mm_I p1.2 57 x1.toNatClampNeg) + (1 : Int32))))) none) none))) := by exact rfl
set_option maxRecDepth 40000 in
set_option maxHeartbeats 4000000 in
theorem u_X11_strokes (n : Nat) (xs : Nat → Int32) (N d : Nat) (M : mmM) (x1 : Int32) (x2 : Int32) : mm_E n xs N (d + 1) 127 [.ref 16, .int x1, .int x2] M =
  ((mm_aI (mm_E n xs N d 108 [.ref 16, .int x1] M)).bind fun p1 =>
  (if p1.1 = 0 then
  ((mm_aI (mm_E n xs N d 126 [.ref 16, .int (0 : Int32)] p1.2)).bind fun p2 =>
    some (some (.int p2.1), p2.2))
  else
  ((mm_aI (mm_E n xs N d 176 [.int (1 : Int32), .int x2, .int (40 : Int32)] p1.2)).bind fun p3 =>
    (if p3.1 = 0 then
    ((mm_aI (mm_E n xs N d 126 [.ref 16, .int (1 : Int32)] p3.2)).bind fun p4 =>
      some (some (.int p4.1), p4.2))
    else
    ((mm_aI (mm_E n xs N d 113 [.ref 16, .int x1] p3.2)).bind fun p5 =>
      (if x2 ≤ p5.1 then
      ((mm_aV (mm_E n xs N d 52 [.ref 38, .ref 35] p5.2)).bind fun p6 =>
        ((mm_aV (mm_E n xs N d 117 [.ref 16, .int x1, .int x2] p6)).bind fun p7 =>
        some (some (.int (mm_I p7 35 0)), p7)))
      else
      ((mm_aI (mm_E n xs N d 126 [.ref 16, .int (3 : Int32)] p5.2)).bind fun p8 =>
        some (some (.int p8.1), p8.2)))))))) := by exact rfl
set_option maxRecDepth 40000 in
set_option maxHeartbeats 4000000 in
theorem u_X11_fold (n : Nat) (xs : Nat → Int32) (N d : Nat) (M : mmM) (x1 : Int32) : mm_E n xs N (d + 1) 128 [.ref 16, .int x1] M =
  ((mm_aI (mm_E n xs N d 110 [.ref 16, .int x1] M)).bind fun p1 =>
  (if p1.1 = 0 then
  ((mm_aI (mm_E n xs N d 126 [.ref 16, .int (0 : Int32)] p1.2)).bind fun p2 =>
    some (some (.int p2.1), p2.2))
  else
  ((mm_aI (mm_E n xs N d 111 [.ref 16, .int x1] p1.2)).bind fun p3 =>
    (if p3.1 = 0 then
    ((mm_aI (mm_E n xs N d 114 [.ref 16, .int x1] p3.2)).bind fun p4 =>
      (if p4.1 = 0 then
      ((mm_aI (mm_E n xs N d 126 [.ref 16, .int (3 : Int32)] p4.2)).bind fun p5 =>
        some (some (.int p5.1), p5.2))
      else
      ((mm_aV (mm_E n xs N d 52 [.ref 38, .ref 35] p4.2)).bind fun p6 =>
        ((mm_aV (mm_E n xs N d 118 [.ref 16, .int x1] p6)).bind fun p7 =>
        some (some (.int (mm_I p7 35 0)), p7)))))
    else
    ((mm_aI (mm_E n xs N d 126 [.ref 16, .int (2 : Int32)] p3.2)).bind fun p8 =>
      some (some (.int p8.1), p8.2)))))) := by exact rfl
set_option maxRecDepth 40000 in
set_option maxHeartbeats 4000000 in
theorem u_X11_sugar (n : Nat) (xs : Nat → Int32) (N d : Nat) (M : mmM)  : mm_E n xs N (d + 1) 129 [.ref 16] M =
  (if (mm_I M 16 16) = 0 then
  ((mm_aI (mm_E n xs N d 126 [.ref 16, .int (0 : Int32)] M)).bind fun p1 =>
    some (some (.int p1.1), p1.2))
  else
  (if (mm_I M 35 3) < (9 : Int32) then
    (if (2 : Int32) ≤ (mm_I M 35 5) then
      ((mm_aV (mm_E n xs N d 52 [.ref 38, .ref 35] M)).bind fun p2 =>
        some (some (.int ((mm_I p2 35 3) + (1 : Int32))), (mm_wI (mm_wI p2 35 5 ((mm_I p2 35 5) - (2 : Int32))) 35 3 ((mm_I p2 35 3) + (1 : Int32)))))
      else
      ((mm_aI (mm_E n xs N d 126 [.ref 16, .int (3 : Int32)] M)).bind fun p3 =>
        some (some (.int p3.1), p3.2)))
    else
    ((mm_aI (mm_E n xs N d 126 [.ref 16, .int (2 : Int32)] M)).bind fun p4 =>
      some (some (.int p4.1), p4.2)))) := by exact rfl
set_option maxRecDepth 40000 in
set_option maxHeartbeats 4000000 in
theorem u_X11_door (n : Nat) (xs : Nat → Int32) (N d : Nat) (M : mmM)  : mm_E n xs N (d + 1) 130 [.ref 16] M =
  (if (mm_I M 16 16) = 0 then
  ((mm_aI (mm_E n xs N d 126 [.ref 16, .int (0 : Int32)] M)).bind fun p1 =>
    some (some (.int p1.1), p1.2))
  else
  ((mm_aV (mm_E n xs N d 52 [.ref 38, .ref 35] M)).bind fun p2 =>
    ((mm_aV (mm_E n xs N d 119 [.ref 16] p2)).bind fun p3 =>
    some (some (.int (mm_I p3 35 0)), p3)))) := by exact rfl
noncomputable def lp_X11_hours (n : Nat) (xs : Nat → Int32) (N d f t : Nat) : mmK := mm_lp (mm_Y n xs) (mm_E n xs N d) cd_X11_hours.1 cd_X11_hours.2.1 f t
set_option maxRecDepth 40000 in
set_option maxHeartbeats 4000000 in
theorem u_X11_hours (n : Nat) (xs : Nat → Int32) (N d : Nat) (M : mmM) (x1 : Int32) : mm_E n xs N (d + 1) 131 [.ref 16, .int x1] M =
  (if (mm_I M 16 16) = 0 then
  ((mm_aI (mm_E n xs N d 126 [.ref 16, .int (0 : Int32)] M)).bind fun p1 =>
    some (some (.int p1.1), p1.2))
  else
  ((mm_aI (mm_E n xs N d 176 [.int (1 : Int32), .int x1, .int (20 : Int32)] M)).bind fun p2 =>
    (if p2.1 = 0 then
    ((mm_aI (mm_E n xs N d 126 [.ref 16, .int (1 : Int32)] p2.2)).bind fun p3 =>
      some (some (.int p3.1), p3.2))
    else
    (lp_X11_hours n xs N d N 31 [some (.ref 16), some (.int x1), some (.int (0 : Int32))] [] p2.2)))) := by exact rfl
set_option maxRecDepth 40000 in
set_option maxHeartbeats 4000000 in
theorem lu_X11_hours_31 (n : Nat) (xs : Nat → Int32) (N d f : Nat) (M : mmM) (y1 : Int32) (y2 : Int32) : lp_X11_hours n xs N d (f + 1) 31 [some (.ref 16), some (.int y1), some (.int y2)] [] M =
  (if y1 ≤ y2 then
  some (some (.int (mm_I M 35 0)), M)
  else
  ((mm_aV (mm_E n xs N d 52 [.ref 38, .ref 35] M)).bind fun p4 =>
    ((mm_aV (mm_E n xs N d 120 [.ref 16] p4)).bind fun p5 =>
    (lp_X11_hours n xs N d f 31 [some (.ref 16), some (.int y1), some (.int (y2 + (1 : Int32)))] [] p5)))) := by exact rfl
set_option maxRecDepth 40000 in
set_option maxHeartbeats 4000000 in
theorem u_X11_practise (n : Nat) (xs : Nat → Int32) (N d : Nat) (M : mmM) (x1 : Int32) : mm_E n xs N (d + 1) 132 [.ref 16, .int x1] M =
  ((mm_aI (mm_E n xs N d 108 [.ref 16, .int x1] M)).bind fun p1 =>
  (if p1.1 = 0 then
  ((mm_aI (mm_E n xs N d 126 [.ref 16, .int (0 : Int32)] p1.2)).bind fun p2 =>
    some (some (.int p2.1), p2.2))
  else
  ((mm_aI (mm_E n xs N d 5 [.ref 35, .int x1] p1.2)).bind fun p3 =>
    (if p3.1 < (9 : Int32) then
    (if (4 : Int32) ≤ (mm_I p3.2 35 5) then
      ((mm_aV (mm_E n xs N d 52 [.ref 38, .ref 35] p3.2)).bind fun p4 =>
        ((mm_aV (mm_E n xs N d 7 [.ref 35, .int x1] (mm_wI p4 35 5 ((mm_I p4 35 5) - (4 : Int32))))).bind fun p5 =>
        ((mm_aI (mm_E n xs N d 5 [.ref 35, .int x1] p5)).bind fun p6 =>
        some (some (.int p6.1), p6.2))))
      else
      ((mm_aI (mm_E n xs N d 126 [.ref 16, .int (3 : Int32)] p3.2)).bind fun p7 =>
        some (some (.int p7.1), p7.2)))
    else
    ((mm_aI (mm_E n xs N d 126 [.ref 16, .int (2 : Int32)] p3.2)).bind fun p8 =>
      some (some (.int p8.1), p8.2)))))) := by exact rfl
set_option maxRecDepth 40000 in
set_option maxHeartbeats 4000000 in
theorem u_X11_yolk (n : Nat) (xs : Nat → Int32) (N d : Nat) (M : mmM)  : mm_E n xs N (d + 1) 133 [.ref 16] M =
  (if (mm_I M 16 16) = 0 then
  ((mm_aI (mm_E n xs N d 126 [.ref 16, .int (0 : Int32)] M)).bind fun p1 =>
    some (some (.int p1.1), p1.2))
  else
  (if 0 < (mm_I M 35 4) then
    (if (3 : Int32) ≤ (mm_I M 35 5) then
      ((mm_aV (mm_E n xs N d 52 [.ref 38, .ref 35] M)).bind fun p2 =>
        some (some (.int ((mm_I p2 35 4) - (1 : Int32))), (mm_wI (mm_wI p2 35 5 ((mm_I p2 35 5) - (3 : Int32))) 35 4 ((mm_I p2 35 4) - (1 : Int32)))))
      else
      ((mm_aI (mm_E n xs N d 126 [.ref 16, .int (3 : Int32)] M)).bind fun p3 =>
        some (some (.int p3.1), p3.2)))
    else
    ((mm_aI (mm_E n xs N d 126 [.ref 16, .int (2 : Int32)] M)).bind fun p4 =>
      some (some (.int p4.1), p4.2)))) := by exact rfl
set_option maxRecDepth 40000 in
set_option maxHeartbeats 4000000 in
theorem u_X11_give (n : Nat) (xs : Nat → Int32) (N d : Nat) (M : mmM) (x1 : Int32) : mm_E n xs N (d + 1) 134 [.ref 16, .int x1] M =
  (if (mm_I M 16 16) = 0 then
  ((mm_aI (mm_E n xs N d 126 [.ref 16, .int (0 : Int32)] M)).bind fun p1 =>
    some (some (.int p1.1), p1.2))
  else
  ((mm_aI (mm_E n xs N d 176 [.int (1 : Int32), .int x1, .int (50 : Int32)] M)).bind fun p2 =>
    (if p2.1 = 0 then
    ((mm_aI (mm_E n xs N d 126 [.ref 16, .int (1 : Int32)] p2.2)).bind fun p3 =>
      some (some (.int p3.1), p3.2))
    else
    (if ((mm_I p2.2 35 5) + x1) ≤ (999 : Int32) then
      ((mm_aV (mm_E n xs N d 52 [.ref 38, .ref 35] p2.2)).bind fun p4 =>
        some (some (.int ((mm_I p4 35 5) + x1)), (mm_wI p4 35 5 ((mm_I p4 35 5) + x1))))
      else
      ((mm_aI (mm_E n xs N d 126 [.ref 16, .int (1 : Int32)] p2.2)).bind fun p5 =>
        some (some (.int p5.1), p5.2)))))) := by exact rfl
noncomputable def lp_X11_days (n : Nat) (xs : Nat → Int32) (N d f t : Nat) : mmK := mm_lp (mm_Y n xs) (mm_E n xs N d) cd_X11_days.1 cd_X11_days.2.1 f t
set_option maxRecDepth 40000 in
set_option maxHeartbeats 4000000 in
theorem u_X11_days (n : Nat) (xs : Nat → Int32) (N d : Nat) (M : mmM) (x1 : Int32) : mm_E n xs N (d + 1) 135 [.ref 16, .int x1] M =
  (if (mm_I M 16 16) = 0 then
  ((mm_aI (mm_E n xs N d 126 [.ref 16, .int (0 : Int32)] M)).bind fun p1 =>
    some (some (.int p1.1), p1.2))
  else
  ((mm_aI (mm_E n xs N d 176 [.int (1 : Int32), .int x1, .int (60 : Int32)] M)).bind fun p2 =>
    (if p2.1 = 0 then
    ((mm_aI (mm_E n xs N d 126 [.ref 16, .int (1 : Int32)] p2.2)).bind fun p3 =>
      some (some (.int p3.1), p3.2))
    else
    (if ((mm_I p2.2 35 8) + x1) ≤ (999 : Int32) then
      (lp_X11_days n xs N d N 52 [some (.ref 16), some (.int x1), some (.int (0 : Int32))] [] p2.2)
      else
      ((mm_aI (mm_E n xs N d 126 [.ref 16, .int (4 : Int32)] p2.2)).bind fun p4 =>
        some (some (.int p4.1), p4.2)))))) := by exact rfl
set_option maxRecDepth 40000 in
set_option maxHeartbeats 4000000 in
theorem lu_X11_days_52 (n : Nat) (xs : Nat → Int32) (N d f : Nat) (M : mmM) (y1 : Int32) (y2 : Int32) : lp_X11_days n xs N d (f + 1) 52 [some (.ref 16), some (.int y1), some (.int y2)] [] M =
  (if y1 ≤ y2 then
  some (some (.int (mm_I M 35 8)), M)
  else
  ((mm_aV (mm_E n xs N d 52 [.ref 38, .ref 35] M)).bind fun p5 =>
    ((mm_aV (mm_E n xs N d 124 [.ref 16] p5)).bind fun p6 =>
    (lp_X11_days n xs N d f 52 [some (.ref 16), some (.int y1), some (.int (y2 + (1 : Int32)))] [] p6)))) := by exact rfl
set_option maxRecDepth 40000 in
set_option maxHeartbeats 4000000 in
theorem u_X11_draught (n : Nat) (xs : Nat → Int32) (N d : Nat) (M : mmM) (x1 : Int32) : mm_E n xs N (d + 1) 136 [.ref 16, .int x1] M =
  ((mm_aI (mm_E n xs N d 176 [.int (0 : Int32), .int x1, .int (9 : Int32)] M)).bind fun p1 =>
  (if p1.1 = 0 then
  some (some (.int (0 : Int32)), p1.2)
  else
  (if x1 = (mm_I p1.2 16 18) then
    some (some (.int (0 : Int32)), p1.2)
    else
    some (some (.int (1 : Int32)), (mm_wI p1.2 16 18 x1))))) := by exact rfl
noncomputable def lp_X11_years (n : Nat) (xs : Nat → Int32) (N d f t : Nat) : mmK := mm_lp (mm_Y n xs) (mm_E n xs N d) cd_X11_years.1 cd_X11_years.2.1 f t
set_option maxRecDepth 40000 in
set_option maxHeartbeats 4000000 in
theorem u_X11_years (n : Nat) (xs : Nat → Int32) (N d : Nat) (M : mmM) (x1 : Int32) (x2 : Int64) : mm_E n xs N (d + 1) 137 [.ref 16, .int x1, .long x2] M =
  (if (mm_I M 16 16) = 0 then
  some (some (.int (-1 : Int32)), M)
  else
  ((mm_aI (mm_E n xs N d 176 [.int (1 : Int32), .int x1, .int (60 : Int32)] M)).bind fun p1 =>
    (if p1.1 = 0 then
    some (some (.int (-1 : Int32)), p1.2)
    else
    (if ((mm_I p1.2 35 8) + x1) ≤ (999 : Int32) then
      ((mm_aV (mm_E n xs N d 9 [.ref 56, .long x2] p1.2)).bind fun p2 =>
        (lp_X11_years n xs N d N 45 [some (.ref 16), some (.int x1), none, none, some (.int (0 : Int32))] [] p2))
      else
      some (some (.int (-1 : Int32)), p1.2))))) := by exact rfl
set_option maxRecDepth 40000 in
set_option maxHeartbeats 4000000 in
theorem lu_X11_years_45 (n : Nat) (xs : Nat → Int32) (N d f : Nat) (M : mmM) (y1 : Int32) (y4 : Int32) : lp_X11_years n xs N d (f + 1) 45 [some (.ref 16), some (.int y1), none, none, some (.int y4)] [] M =
  (if y1 ≤ y4 then
  some (some (.int (mm_I M 35 8)), M)
  else
  ((mm_aV (mm_E n xs N d 52 [.ref 38, .ref 35] M)).bind fun p3 =>
    ((mm_aV (mm_E n xs N d 125 [.ref 16] p3)).bind fun p4 =>
    (lp_X11_years n xs N d f 45 [some (.ref 16), some (.int y1), none, none, some (.int (y4 + (1 : Int32)))] [] p4)))) := by exact rfl
set_option maxRecDepth 40000 in
set_option maxHeartbeats 4000000 in
theorem u_X11_status (n : Nat) (xs : Nat → Int32) (N d : Nat) (M : mmM) (x1 : Int32) : mm_E n xs N (d + 1) 138 [.ref 16, .int x1] M =
  ((mm_aI (mm_E n xs N d 176 [.int (0 : Int32), .int x1, .int ((Int32.ofNat 5) - (1 : Int32))] M)).bind fun p1 =>
  (if p1.1 = 0 then
  some (some (.int (-1 : Int32)), p1.2)
  else
  (cond (mm_inb x1 5)
    (some (some (.int (mm_I p1.2 57 x1.toNatClampNeg)), p1.2)) none))) := by exact rfl
set_option maxRecDepth 40000 in
set_option maxHeartbeats 4000000 in
theorem u_X11_undo (n : Nat) (xs : Nat → Int32) (N d : Nat) (M : mmM)  : mm_E n xs N (d + 1) 139 [.ref 16] M =
  ((mm_aI (mm_E n xs N d 53 [.ref 38, .ref 35] M)).bind fun p1 =>
  (if p1.1 = 0 then
  some (some (.int (-1 : Int32)), p1.2)
  else
  ((mm_aI (mm_E n xs N d 50 [.ref 38] p1.2)).bind fun p2 =>
    some (some (.int p2.1), p2.2)))) := by exact rfl
set_option maxRecDepth 40000 in
set_option maxHeartbeats 4000000 in
theorem u_X11_log (n : Nat) (xs : Nat → Int32) (N d : Nat) (M : mmM) (x1 : Int32) (x2 : Int32) : mm_E n xs N (d + 1) 140 [.ref 16, .int x1, .int x2] M =
  ((mm_aI (mm_E n xs N d 141 [.ref 16] M)).bind fun p1 =>
  ((mm_aI (mm_E n xs N d 176 [.int (0 : Int32), .int x1, .int (p1.1 - (1 : Int32))] p1.2)).bind fun p2 =>
  (if p2.1 = 0 then
  some (some (.int (-1 : Int32)), p2.2)
  else
  ((mm_aI (mm_E n xs N d 176 [.int (0 : Int32), .int x2, .int (2 : Int32)] p2.2)).bind fun p3 =>
    (if p3.1 = 0 then
    some (some (.int (-1 : Int32)), p3.2)
    else
    ((mm_aI (mm_E n xs N d 46 [.ref 40, .int (((mm_I p3.2 35 8) - (1 : Int32)) - x1), .int x2] p3.2)).bind fun p4 =>
      some (some (.int p4.1), p4.2))))))) := by exact rfl
set_option maxRecDepth 40000 in
set_option maxHeartbeats 4000000 in
theorem u_X11_logSize (n : Nat) (xs : Nat → Int32) (N d : Nat) (M : mmM)  : mm_E n xs N (d + 1) 141 [.ref 16] M =
  ((mm_aI (mm_E n xs N d 304 [.int (60 : Int32), .int (mm_I M 35 8)] M)).bind fun p1 =>
  some (some (.int p1.1), p1.2)) := by exact rfl
set_option maxRecDepth 40000 in
set_option maxHeartbeats 4000000 in
theorem u_X11_behind (n : Nat) (xs : Nat → Int32) (N d : Nat) (M : mmM) (x1 : Int32) (x2 : Int32) : mm_E n xs N (d + 1) 142 [.ref 16, .int x1, .int x2] M =
  ((mm_aI (mm_E n xs N d 108 [.ref 16, .int x1] M)).bind fun p1 =>
  (if p1.1 = 0 then
  some (some (.int (-1 : Int32)), p1.2)
  else
  ((mm_aI (mm_E n xs N d 176 [.int (0 : Int32), .int x2, .int (40 : Int32)] p1.2)).bind fun p2 =>
    (if p2.1 = 0 then
    some (some (.int (-1 : Int32)), p2.2)
    else
    ((mm_aI (mm_E n xs N d 113 [.ref 16, .int x1] p2.2)).bind fun p3 =>
      ((mm_aI (mm_E n xs N d 304 [.int x2, .int p3.1] p3.2)).bind fun p4 =>
      ((mm_aI (mm_E n xs N d 5 [.ref 35, .int x1] p4.2)).bind fun p5 =>
      ((mm_aI (mm_E n xs N d 143 [.ref 16, .int p5.1, .int (mm_I p5.2 35 0), .int (mm_I p5.2 35 1), .int (mm_I p5.2 35 4), .int p4.1] p5.2)).bind fun p6 =>
      some (some (.int p6.1), p6.2))))))))) := by exact rfl
noncomputable def lp_X11_whiskedOften (n : Nat) (xs : Nat → Int32) (N d f t : Nat) : mmK := mm_lp (mm_Y n xs) (mm_E n xs N d) cd_X11_whiskedOften.1 cd_X11_whiskedOften.2.1 f t
set_option maxRecDepth 40000 in
set_option maxHeartbeats 4000000 in
theorem u_X11_whiskedOften (n : Nat) (xs : Nat → Int32) (N d : Nat) (M : mmM) (x1 : Int32) (x2 : Int32) (x3 : Int32) (x4 : Int32) (x5 : Int32) : mm_E n xs N (d + 1) 143 [.ref 16, .int x1, .int x2, .int x3, .int x4, .int x5] M =
  (lp_X11_whiskedOften n xs N d N 6 [some (.ref 16), some (.int x1), none, some (.int x3), some (.int x4), some (.int x5), some (.int x2), some (.int (0 : Int32))] [] M) := by exact rfl
set_option maxRecDepth 40000 in
set_option maxHeartbeats 4000000 in
theorem lu_X11_whiskedOften_6 (n : Nat) (xs : Nat → Int32) (N d f : Nat) (M : mmM) (y1 : Int32) (y3 : Int32) (y4 : Int32) (y5 : Int32) (y6 : Int32) (y7 : Int32) : lp_X11_whiskedOften n xs N d (f + 1) 6 [some (.ref 16), some (.int y1), none, some (.int y3), some (.int y4), some (.int y5), some (.int y6), some (.int y7)] [] M =
  (if y5 ≤ y7 then
  some (some (.int y6), M)
  else
  ((mm_aI (mm_E n xs N d 116 [.ref 16, .int y1, .int y6, .int (y3 + y7), .int y4] M)).bind fun p1 =>
    (lp_X11_whiskedOften n xs N d f 6 [some (.ref 16), some (.int y1), none, some (.int y3), some (.int y4), some (.int y5), some (.int p1.1), some (.int (y7 + (1 : Int32)))] [] p1.2))) := by exact rfl
set_option maxRecDepth 40000 in
set_option maxHeartbeats 4000000 in
theorem u_X11_soonest (n : Nat) (xs : Nat → Int32) (N d : Nat) (M : mmM) (x1 : Int32) (x2 : Int32) : mm_E n xs N (d + 1) 144 [.ref 16, .int x1, .int x2] M =
  ((mm_aI (mm_E n xs N d 108 [.ref 16, .int x1] M)).bind fun p1 =>
  (if p1.1 = 0 then
  some (some (.int (-1 : Int32)), p1.2)
  else
  ((mm_aI (mm_E n xs N d 177 [.int x2] p1.2)).bind fun p2 =>
    (if p2.1 = 0 then
    some (some (.int (-1 : Int32)), p2.2)
    else
    ((mm_aI (mm_E n xs N d 145 [.ref 16, .int x1, .int x2] p2.2)).bind fun p3 =>
      some (some (.int p3.1), p3.2)))))) := by exact rfl
noncomputable def lp_X11_soonestOf (n : Nat) (xs : Nat → Int32) (N d f t : Nat) : mmK := mm_lp (mm_Y n xs) (mm_E n xs N d) cd_X11_soonestOf.1 cd_X11_soonestOf.2.1 f t
set_option maxRecDepth 40000 in
set_option maxHeartbeats 4000000 in
theorem u_X11_soonestOf (n : Nat) (xs : Nat → Int32) (N d : Nat) (M : mmM) (x1 : Int32) (x2 : Int32) : mm_E n xs N (d + 1) 145 [.ref 16, .int x1, .int x2] M =
  ((mm_aI (mm_E n xs N d 5 [.ref 35, .int x1] M)).bind fun p1 =>
  ((mm_aI (mm_E n xs N d 113 [.ref 16, .int x1] p1.2)).bind fun p2 =>
  (lp_X11_soonestOf n xs N d N 28 [some (.ref 16), none, some (.int x2), some (.int p1.1), some (.int p2.1), some (.int (mm_I p2.2 35 0)), some (.int (0 : Int32))] [] p2.2))) := by exact rfl
set_option maxRecDepth 40000 in
set_option maxHeartbeats 4000000 in
theorem lu_X11_soonestOf_28 (n : Nat) (xs : Nat → Int32) (N d f : Nat) (M : mmM) (y2 : Int32) (y3 : Int32) (y4 : Int32) (y5 : Int32) (y6 : Int32) : lp_X11_soonestOf n xs N d (f + 1) 28 [some (.ref 16), none, some (.int y2), some (.int y3), some (.int y4), some (.int y5), some (.int y6)] [] M =
  (if y4 < y6 then
  some (some (.int (-1 : Int32)), M)
  else
  (if y5 < y2 then
    ((mm_aI (mm_E n xs N d 116 [.ref 16, .int y3, .int y5, .int ((mm_I M 35 1) + y6), .int (mm_I M 35 4)] M)).bind fun p3 =>
      (lp_X11_soonestOf n xs N d f 28 [some (.ref 16), none, some (.int y2), some (.int y3), some (.int y4), some (.int p3.1), some (.int (y6 + (1 : Int32)))] [] p3.2))
    else
    some (some (.int y6), M))) := by exact rfl
noncomputable def lp_X11_stop (n : Nat) (xs : Nat → Int32) (N d f t : Nat) : mmK := mm_lp (mm_Y n xs) (mm_E n xs N d) cd_X11_stop.1 cd_X11_stop.2.1 f t
set_option maxRecDepth 40000 in
set_option maxHeartbeats 4000000 in
theorem u_X11_stop (n : Nat) (xs : Nat → Int32) (N d : Nat) (M : mmM) (x1 : Int32) (x2 : Int32) : mm_E n xs N (d + 1) 146 [.ref 16, .int x1, .int x2] M =
  ((mm_aI (mm_E n xs N d 108 [.ref 16, .int x1] M)).bind fun p1 =>
  (if p1.1 = 0 then
  some (some (.int (-1 : Int32)), p1.2)
  else
  ((mm_aI (mm_E n xs N d 176 [.int (0 : Int32), .int x2, .int (1 : Int32)] p1.2)).bind fun p2 =>
    (if p2.1 = 0 then
    some (some (.int (-1 : Int32)), p2.2)
    else
    ((mm_aI (mm_E n xs N d 5 [.ref 35, .int x1] p2.2)).bind fun p3 =>
      ((mm_aI (mm_E n xs N d 113 [.ref 16, .int x1] p3.2)).bind fun p4 =>
      (lp_X11_stop n xs N d N 54 [some (.ref 16), none, some (.int x2), some (.int p3.1), some (.int p4.1), some (.int (mm_I p4.2 35 0)), some (.int (mm_I p4.2 35 0)), some (.int (0 : Int32)), some (.int (1 : Int32))] [] p4.2))))))) := by exact rfl
set_option maxRecDepth 40000 in
set_option maxHeartbeats 4000000 in
theorem lu_X11_stop_54 (n : Nat) (xs : Nat → Int32) (N d f : Nat) (M : mmM) (y2 : Int32) (y3 : Int32) (y4 : Int32) (y5 : Int32) (y6 : Int32) (y7 : Int32) (y8 : Int32) : lp_X11_stop n xs N d (f + 1) 54 [some (.ref 16), none, some (.int y2), some (.int y3), some (.int y4), some (.int y5), some (.int y6), some (.int y7), some (.int y8)] [] M =
  (if y4 < y8 then
  (if y2 = 0 then
    some (some (.int y7), M)
    else
    some (some (.int y6), M))
  else
  ((mm_aI (mm_E n xs N d 116 [.ref 16, .int y3, .int y5, .int (((mm_I M 35 1) + y8) - (1 : Int32)), .int (mm_I M 35 4)] M)).bind fun p5 =>
    (if p5.1 ≤ y6 then
    (lp_X11_stop n xs N d f 54 [some (.ref 16), none, some (.int y2), some (.int y3), some (.int y4), some (.int p5.1), some (.int y6), some (.int y7), some (.int (y8 + (1 : Int32)))] [] p5.2)
    else
    (lp_X11_stop n xs N d f 54 [some (.ref 16), none, some (.int y2), some (.int y3), some (.int y4), some (.int p5.1), some (.int p5.1), some (.int y8), some (.int (y8 + (1 : Int32)))] [] p5.2)))) := by exact rfl
noncomputable def lp_X11_best (n : Nat) (xs : Nat → Int32) (N d f t : Nat) : mmK := mm_lp (mm_Y n xs) (mm_E n xs N d) cd_X11_best.1 cd_X11_best.2.1 f t
set_option maxRecDepth 40000 in
set_option maxHeartbeats 4000000 in
theorem u_X11_best (n : Nat) (xs : Nat → Int32) (N d : Nat) (M : mmM) (x1 : Int32) : mm_E n xs N (d + 1) 147 [.ref 16, .int x1] M =
  (if (mm_I M 16 16) = 0 then
  some (some (.int (-1 : Int32)), M)
  else
  ((mm_aI (mm_E n xs N d 177 [.int x1] M)).bind fun p1 =>
    (if p1.1 = 0 then
    some (some (.int (-1 : Int32)), p1.2)
    else
    (lp_X11_best n xs N d N 23 [some (.ref 16), some (.int x1), some (.int (-1 : Int32)), some (.int (0 : Int32)), some (.int (0 : Int32)), none] [] p1.2)))) := by exact rfl
set_option maxRecDepth 40000 in
set_option maxHeartbeats 4000000 in
theorem lu_X11_best_23 (n : Nat) (xs : Nat → Int32) (N d f : Nat) (M : mmM) (y1 : Int32) (y2 : Int32) (y3 : Int32) (y4 : Int32) : lp_X11_best n xs N d (f + 1) 23 [some (.ref 16), some (.int y1), some (.int y2), some (.int y3), some (.int y4), none] [] M =
  ((mm_aI (mm_E n xs N d 86 [.ref 32, .int (1 : Int32)] M)).bind fun p2 =>
  (if p2.1 ≤ y4 then
  some (some (.int y2), p2.2)
  else
  ((mm_aI (mm_E n xs N d 145 [.ref 16, .int y4, .int y1] p2.2)).bind fun p3 =>
    (if p3.1 = (-1 : Int32) then
    (lp_X11_best n xs N d f 23 [some (.ref 16), some (.int y1), some (.int y2), some (.int y3), some (.int (y4 + (1 : Int32))), none] [] p3.2)
    else
    (if y2 = (-1 : Int32) then
      (lp_X11_best n xs N d f 23 [some (.ref 16), some (.int y1), some (.int y4), some (.int p3.1), some (.int (y4 + (1 : Int32))), none] [] p3.2)
      else
      (if y3 ≤ p3.1 then
        (lp_X11_best n xs N d f 23 [some (.ref 16), some (.int y1), some (.int y2), some (.int y3), some (.int (y4 + (1 : Int32))), none] [] p3.2)
        else
        (lp_X11_best n xs N d f 23 [some (.ref 16), some (.int y1), some (.int y4), some (.int p3.1), some (.int (y4 + (1 : Int32))), none] [] p3.2))))))) := by exact rfl
noncomputable def lp_X11_byTurns (n : Nat) (xs : Nat → Int32) (N d f t : Nat) : mmK := mm_lp (mm_Y n xs) (mm_E n xs N d) cd_X11_byTurns.1 cd_X11_byTurns.2.1 f t
set_option maxRecDepth 40000 in
set_option maxHeartbeats 4000000 in
theorem u_X11_byTurns (n : Nat) (xs : Nat → Int32) (N d : Nat) (M : mmM) (x1 : Int32) (x2 : Int32) (x3 : Int32) : mm_E n xs N (d + 1) 148 [.ref 16, .int x1, .int x2, .int x3] M =
  ((mm_aI (mm_E n xs N d 109 [.ref 16, .int x1, .int x2] M)).bind fun p1 =>
  (if p1.1 = 0 then
  some (some (.int (-1 : Int32)), p1.2)
  else
  ((mm_aI (mm_E n xs N d 177 [.int x3] p1.2)).bind fun p2 =>
    (if p2.1 = 0 then
    some (some (.int (-1 : Int32)), p2.2)
    else
    ((mm_aI (mm_E n xs N d 113 [.ref 16, .int x1] p2.2)).bind fun p3 =>
      ((mm_aI (mm_E n xs N d 113 [.ref 16, .int x2] p3.2)).bind fun p4 =>
      (lp_X11_byTurns n xs N d N 54 [some (.ref 16), some (.int x1), some (.int x2), some (.int x3), some (.int p3.1), some (.int p4.1), some (.int (p3.1 + p4.1)), some (.int (mm_I p4.2 35 0)), some (.int (1 : Int32)), some (.int (0 : Int32)), none] [] p4.2))))))) := by exact rfl
set_option maxRecDepth 40000 in
set_option maxHeartbeats 4000000 in
theorem lu_X11_byTurns_54 (n : Nat) (xs : Nat → Int32) (N d f : Nat) (M : mmM) (y1 : Int32) (y2 : Int32) (y3 : Int32) (y4 : Int32) (y5 : Int32) (y6 : Int32) (y7 : Int32) (y8 : Int32) (y9 : Int32) : lp_X11_byTurns n xs N d (f + 1) 54 [some (.ref 16), some (.int y1), some (.int y2), some (.int y3), some (.int y4), some (.int y5), some (.int y6), some (.int y7), some (.int y8), some (.int y9), none] [] M =
  (if y6 < y9 then
  some (some (.int (-1 : Int32)), M)
  else
  (if y7 < y3 then
    (if y5 ≤ 0 then
      (if (1 : Int32) = 0 then
        ((mm_aI (mm_E n xs N d 5 [.ref 35, .int y2] M)).bind fun p5 =>
          ((mm_aI (mm_E n xs N d 116 [.ref 16, .int p5.1, .int y7, .int ((mm_I p5.2 35 1) + y9), .int (mm_I p5.2 35 4)] p5.2)).bind fun p6 =>
          (if (1 : Int32) = 0 then
          (if (1 : Int32) = 0 then
            (if (1 : Int32) = 0 then
              (lp_X11_byTurns n xs N d f 54 [some (.ref 16), some (.int y1), some (.int y2), some (.int y3), some (.int (y4 - (0 : Int32))), some (.int (y5 - (1 : Int32))), some (.int y6), some (.int p6.1), some (.int (1 : Int32)), some (.int (y9 + (1 : Int32))), none] [] p6.2)
              else
              (lp_X11_byTurns n xs N d f 54 [some (.ref 16), some (.int y1), some (.int y2), some (.int y3), some (.int (y4 - (0 : Int32))), some (.int (y5 - (1 : Int32))), some (.int y6), some (.int p6.1), some (.int (0 : Int32)), some (.int (y9 + (1 : Int32))), none] [] p6.2))
            else
            (if (1 : Int32) = 0 then
              (lp_X11_byTurns n xs N d f 54 [some (.ref 16), some (.int y1), some (.int y2), some (.int y3), some (.int (y4 - (0 : Int32))), some (.int (y5 - (0 : Int32))), some (.int y6), some (.int p6.1), some (.int (1 : Int32)), some (.int (y9 + (1 : Int32))), none] [] p6.2)
              else
              (lp_X11_byTurns n xs N d f 54 [some (.ref 16), some (.int y1), some (.int y2), some (.int y3), some (.int (y4 - (0 : Int32))), some (.int (y5 - (0 : Int32))), some (.int y6), some (.int p6.1), some (.int (0 : Int32)), some (.int (y9 + (1 : Int32))), none] [] p6.2)))
          else
          (if (1 : Int32) = 0 then
            (if (1 : Int32) = 0 then
              (lp_X11_byTurns n xs N d f 54 [some (.ref 16), some (.int y1), some (.int y2), some (.int y3), some (.int (y4 - (1 : Int32))), some (.int (y5 - (1 : Int32))), some (.int y6), some (.int p6.1), some (.int (1 : Int32)), some (.int (y9 + (1 : Int32))), none] [] p6.2)
              else
              (lp_X11_byTurns n xs N d f 54 [some (.ref 16), some (.int y1), some (.int y2), some (.int y3), some (.int (y4 - (1 : Int32))), some (.int (y5 - (1 : Int32))), some (.int y6), some (.int p6.1), some (.int (0 : Int32)), some (.int (y9 + (1 : Int32))), none] [] p6.2))
            else
            (if (1 : Int32) = 0 then
              (lp_X11_byTurns n xs N d f 54 [some (.ref 16), some (.int y1), some (.int y2), some (.int y3), some (.int (y4 - (1 : Int32))), some (.int (y5 - (0 : Int32))), some (.int y6), some (.int p6.1), some (.int (1 : Int32)), some (.int (y9 + (1 : Int32))), none] [] p6.2)
              else
              (lp_X11_byTurns n xs N d f 54 [some (.ref 16), some (.int y1), some (.int y2), some (.int y3), some (.int (y4 - (1 : Int32))), some (.int (y5 - (0 : Int32))), some (.int y6), some (.int p6.1), some (.int (0 : Int32)), some (.int (y9 + (1 : Int32))), none] [] p6.2))))))
        else
        ((mm_aI (mm_E n xs N d 5 [.ref 35, .int y1] M)).bind fun p7 =>
          ((mm_aI (mm_E n xs N d 116 [.ref 16, .int p7.1, .int y7, .int ((mm_I p7.2 35 1) + y9), .int (mm_I p7.2 35 4)] p7.2)).bind fun p8 =>
          (if (1 : Int32) = 0 then
          (if (1 : Int32) = 0 then
            (if (1 : Int32) = 0 then
              (lp_X11_byTurns n xs N d f 54 [some (.ref 16), some (.int y1), some (.int y2), some (.int y3), some (.int (y4 - (0 : Int32))), some (.int (y5 - (1 : Int32))), some (.int y6), some (.int p8.1), some (.int (1 : Int32)), some (.int (y9 + (1 : Int32))), none] [] p8.2)
              else
              (lp_X11_byTurns n xs N d f 54 [some (.ref 16), some (.int y1), some (.int y2), some (.int y3), some (.int (y4 - (0 : Int32))), some (.int (y5 - (1 : Int32))), some (.int y6), some (.int p8.1), some (.int (0 : Int32)), some (.int (y9 + (1 : Int32))), none] [] p8.2))
            else
            (if (1 : Int32) = 0 then
              (lp_X11_byTurns n xs N d f 54 [some (.ref 16), some (.int y1), some (.int y2), some (.int y3), some (.int (y4 - (0 : Int32))), some (.int (y5 - (0 : Int32))), some (.int y6), some (.int p8.1), some (.int (1 : Int32)), some (.int (y9 + (1 : Int32))), none] [] p8.2)
              else
              (lp_X11_byTurns n xs N d f 54 [some (.ref 16), some (.int y1), some (.int y2), some (.int y3), some (.int (y4 - (0 : Int32))), some (.int (y5 - (0 : Int32))), some (.int y6), some (.int p8.1), some (.int (0 : Int32)), some (.int (y9 + (1 : Int32))), none] [] p8.2)))
          else
          (if (1 : Int32) = 0 then
            (if (1 : Int32) = 0 then
              (lp_X11_byTurns n xs N d f 54 [some (.ref 16), some (.int y1), some (.int y2), some (.int y3), some (.int (y4 - (1 : Int32))), some (.int (y5 - (1 : Int32))), some (.int y6), some (.int p8.1), some (.int (1 : Int32)), some (.int (y9 + (1 : Int32))), none] [] p8.2)
              else
              (lp_X11_byTurns n xs N d f 54 [some (.ref 16), some (.int y1), some (.int y2), some (.int y3), some (.int (y4 - (1 : Int32))), some (.int (y5 - (1 : Int32))), some (.int y6), some (.int p8.1), some (.int (0 : Int32)), some (.int (y9 + (1 : Int32))), none] [] p8.2))
            else
            (if (1 : Int32) = 0 then
              (lp_X11_byTurns n xs N d f 54 [some (.ref 16), some (.int y1), some (.int y2), some (.int y3), some (.int (y4 - (1 : Int32))), some (.int (y5 - (0 : Int32))), some (.int y6), some (.int p8.1), some (.int (1 : Int32)), some (.int (y9 + (1 : Int32))), none] [] p8.2)
              else
              (lp_X11_byTurns n xs N d f 54 [some (.ref 16), some (.int y1), some (.int y2), some (.int y3), some (.int (y4 - (1 : Int32))), some (.int (y5 - (0 : Int32))), some (.int y6), some (.int p8.1), some (.int (0 : Int32)), some (.int (y9 + (1 : Int32))), none] [] p8.2)))))))
      else
      (if y8 = 0 then
        (if (0 : Int32) = 0 then
          ((mm_aI (mm_E n xs N d 5 [.ref 35, .int y2] M)).bind fun p9 =>
            ((mm_aI (mm_E n xs N d 116 [.ref 16, .int p9.1, .int y7, .int ((mm_I p9.2 35 1) + y9), .int (mm_I p9.2 35 4)] p9.2)).bind fun p10 =>
            (if (0 : Int32) = 0 then
            (if (0 : Int32) = 0 then
              (if (0 : Int32) = 0 then
                (lp_X11_byTurns n xs N d f 54 [some (.ref 16), some (.int y1), some (.int y2), some (.int y3), some (.int (y4 - (0 : Int32))), some (.int (y5 - (1 : Int32))), some (.int y6), some (.int p10.1), some (.int (1 : Int32)), some (.int (y9 + (1 : Int32))), none] [] p10.2)
                else
                (lp_X11_byTurns n xs N d f 54 [some (.ref 16), some (.int y1), some (.int y2), some (.int y3), some (.int (y4 - (0 : Int32))), some (.int (y5 - (1 : Int32))), some (.int y6), some (.int p10.1), some (.int (0 : Int32)), some (.int (y9 + (1 : Int32))), none] [] p10.2))
              else
              (if (0 : Int32) = 0 then
                (lp_X11_byTurns n xs N d f 54 [some (.ref 16), some (.int y1), some (.int y2), some (.int y3), some (.int (y4 - (0 : Int32))), some (.int (y5 - (0 : Int32))), some (.int y6), some (.int p10.1), some (.int (1 : Int32)), some (.int (y9 + (1 : Int32))), none] [] p10.2)
                else
                (lp_X11_byTurns n xs N d f 54 [some (.ref 16), some (.int y1), some (.int y2), some (.int y3), some (.int (y4 - (0 : Int32))), some (.int (y5 - (0 : Int32))), some (.int y6), some (.int p10.1), some (.int (0 : Int32)), some (.int (y9 + (1 : Int32))), none] [] p10.2)))
            else
            (if (0 : Int32) = 0 then
              (if (0 : Int32) = 0 then
                (lp_X11_byTurns n xs N d f 54 [some (.ref 16), some (.int y1), some (.int y2), some (.int y3), some (.int (y4 - (1 : Int32))), some (.int (y5 - (1 : Int32))), some (.int y6), some (.int p10.1), some (.int (1 : Int32)), some (.int (y9 + (1 : Int32))), none] [] p10.2)
                else
                (lp_X11_byTurns n xs N d f 54 [some (.ref 16), some (.int y1), some (.int y2), some (.int y3), some (.int (y4 - (1 : Int32))), some (.int (y5 - (1 : Int32))), some (.int y6), some (.int p10.1), some (.int (0 : Int32)), some (.int (y9 + (1 : Int32))), none] [] p10.2))
              else
              (if (0 : Int32) = 0 then
                (lp_X11_byTurns n xs N d f 54 [some (.ref 16), some (.int y1), some (.int y2), some (.int y3), some (.int (y4 - (1 : Int32))), some (.int (y5 - (0 : Int32))), some (.int y6), some (.int p10.1), some (.int (1 : Int32)), some (.int (y9 + (1 : Int32))), none] [] p10.2)
                else
                (lp_X11_byTurns n xs N d f 54 [some (.ref 16), some (.int y1), some (.int y2), some (.int y3), some (.int (y4 - (1 : Int32))), some (.int (y5 - (0 : Int32))), some (.int y6), some (.int p10.1), some (.int (0 : Int32)), some (.int (y9 + (1 : Int32))), none] [] p10.2))))))
          else
          ((mm_aI (mm_E n xs N d 5 [.ref 35, .int y1] M)).bind fun p11 =>
            ((mm_aI (mm_E n xs N d 116 [.ref 16, .int p11.1, .int y7, .int ((mm_I p11.2 35 1) + y9), .int (mm_I p11.2 35 4)] p11.2)).bind fun p12 =>
            (if (0 : Int32) = 0 then
            (if (0 : Int32) = 0 then
              (if (0 : Int32) = 0 then
                (lp_X11_byTurns n xs N d f 54 [some (.ref 16), some (.int y1), some (.int y2), some (.int y3), some (.int (y4 - (0 : Int32))), some (.int (y5 - (1 : Int32))), some (.int y6), some (.int p12.1), some (.int (1 : Int32)), some (.int (y9 + (1 : Int32))), none] [] p12.2)
                else
                (lp_X11_byTurns n xs N d f 54 [some (.ref 16), some (.int y1), some (.int y2), some (.int y3), some (.int (y4 - (0 : Int32))), some (.int (y5 - (1 : Int32))), some (.int y6), some (.int p12.1), some (.int (0 : Int32)), some (.int (y9 + (1 : Int32))), none] [] p12.2))
              else
              (if (0 : Int32) = 0 then
                (lp_X11_byTurns n xs N d f 54 [some (.ref 16), some (.int y1), some (.int y2), some (.int y3), some (.int (y4 - (0 : Int32))), some (.int (y5 - (0 : Int32))), some (.int y6), some (.int p12.1), some (.int (1 : Int32)), some (.int (y9 + (1 : Int32))), none] [] p12.2)
                else
                (lp_X11_byTurns n xs N d f 54 [some (.ref 16), some (.int y1), some (.int y2), some (.int y3), some (.int (y4 - (0 : Int32))), some (.int (y5 - (0 : Int32))), some (.int y6), some (.int p12.1), some (.int (0 : Int32)), some (.int (y9 + (1 : Int32))), none] [] p12.2)))
            else
            (if (0 : Int32) = 0 then
              (if (0 : Int32) = 0 then
                (lp_X11_byTurns n xs N d f 54 [some (.ref 16), some (.int y1), some (.int y2), some (.int y3), some (.int (y4 - (1 : Int32))), some (.int (y5 - (1 : Int32))), some (.int y6), some (.int p12.1), some (.int (1 : Int32)), some (.int (y9 + (1 : Int32))), none] [] p12.2)
                else
                (lp_X11_byTurns n xs N d f 54 [some (.ref 16), some (.int y1), some (.int y2), some (.int y3), some (.int (y4 - (1 : Int32))), some (.int (y5 - (1 : Int32))), some (.int y6), some (.int p12.1), some (.int (0 : Int32)), some (.int (y9 + (1 : Int32))), none] [] p12.2))
              else
              (if (0 : Int32) = 0 then
                (lp_X11_byTurns n xs N d f 54 [some (.ref 16), some (.int y1), some (.int y2), some (.int y3), some (.int (y4 - (1 : Int32))), some (.int (y5 - (0 : Int32))), some (.int y6), some (.int p12.1), some (.int (1 : Int32)), some (.int (y9 + (1 : Int32))), none] [] p12.2)
                else
                (lp_X11_byTurns n xs N d f 54 [some (.ref 16), some (.int y1), some (.int y2), some (.int y3), some (.int (y4 - (1 : Int32))), some (.int (y5 - (0 : Int32))), some (.int y6), some (.int p12.1), some (.int (0 : Int32)), some (.int (y9 + (1 : Int32))), none] [] p12.2)))))))
        else
        (if y4 ≤ 0 then
          (if (0 : Int32) = 0 then
            ((mm_aI (mm_E n xs N d 5 [.ref 35, .int y2] M)).bind fun p13 =>
              ((mm_aI (mm_E n xs N d 116 [.ref 16, .int p13.1, .int y7, .int ((mm_I p13.2 35 1) + y9), .int (mm_I p13.2 35 4)] p13.2)).bind fun p14 =>
              (if (0 : Int32) = 0 then
              (if (0 : Int32) = 0 then
                (if (0 : Int32) = 0 then
                  (lp_X11_byTurns n xs N d f 54 [some (.ref 16), some (.int y1), some (.int y2), some (.int y3), some (.int (y4 - (0 : Int32))), some (.int (y5 - (1 : Int32))), some (.int y6), some (.int p14.1), some (.int (1 : Int32)), some (.int (y9 + (1 : Int32))), none] [] p14.2)
                  else
                  (lp_X11_byTurns n xs N d f 54 [some (.ref 16), some (.int y1), some (.int y2), some (.int y3), some (.int (y4 - (0 : Int32))), some (.int (y5 - (1 : Int32))), some (.int y6), some (.int p14.1), some (.int (0 : Int32)), some (.int (y9 + (1 : Int32))), none] [] p14.2))
                else
                (if (0 : Int32) = 0 then
                  (lp_X11_byTurns n xs N d f 54 [some (.ref 16), some (.int y1), some (.int y2), some (.int y3), some (.int (y4 - (0 : Int32))), some (.int (y5 - (0 : Int32))), some (.int y6), some (.int p14.1), some (.int (1 : Int32)), some (.int (y9 + (1 : Int32))), none] [] p14.2)
                  else
                  (lp_X11_byTurns n xs N d f 54 [some (.ref 16), some (.int y1), some (.int y2), some (.int y3), some (.int (y4 - (0 : Int32))), some (.int (y5 - (0 : Int32))), some (.int y6), some (.int p14.1), some (.int (0 : Int32)), some (.int (y9 + (1 : Int32))), none] [] p14.2)))
              else
              (if (0 : Int32) = 0 then
                (if (0 : Int32) = 0 then
                  (lp_X11_byTurns n xs N d f 54 [some (.ref 16), some (.int y1), some (.int y2), some (.int y3), some (.int (y4 - (1 : Int32))), some (.int (y5 - (1 : Int32))), some (.int y6), some (.int p14.1), some (.int (1 : Int32)), some (.int (y9 + (1 : Int32))), none] [] p14.2)
                  else
                  (lp_X11_byTurns n xs N d f 54 [some (.ref 16), some (.int y1), some (.int y2), some (.int y3), some (.int (y4 - (1 : Int32))), some (.int (y5 - (1 : Int32))), some (.int y6), some (.int p14.1), some (.int (0 : Int32)), some (.int (y9 + (1 : Int32))), none] [] p14.2))
                else
                (if (0 : Int32) = 0 then
                  (lp_X11_byTurns n xs N d f 54 [some (.ref 16), some (.int y1), some (.int y2), some (.int y3), some (.int (y4 - (1 : Int32))), some (.int (y5 - (0 : Int32))), some (.int y6), some (.int p14.1), some (.int (1 : Int32)), some (.int (y9 + (1 : Int32))), none] [] p14.2)
                  else
                  (lp_X11_byTurns n xs N d f 54 [some (.ref 16), some (.int y1), some (.int y2), some (.int y3), some (.int (y4 - (1 : Int32))), some (.int (y5 - (0 : Int32))), some (.int y6), some (.int p14.1), some (.int (0 : Int32)), some (.int (y9 + (1 : Int32))), none] [] p14.2))))))
            else
            ((mm_aI (mm_E n xs N d 5 [.ref 35, .int y1] M)).bind fun p15 =>
              ((mm_aI (mm_E n xs N d 116 [.ref 16, .int p15.1, .int y7, .int ((mm_I p15.2 35 1) + y9), .int (mm_I p15.2 35 4)] p15.2)).bind fun p16 =>
              (if (0 : Int32) = 0 then
              (if (0 : Int32) = 0 then
                (if (0 : Int32) = 0 then
                  (lp_X11_byTurns n xs N d f 54 [some (.ref 16), some (.int y1), some (.int y2), some (.int y3), some (.int (y4 - (0 : Int32))), some (.int (y5 - (1 : Int32))), some (.int y6), some (.int p16.1), some (.int (1 : Int32)), some (.int (y9 + (1 : Int32))), none] [] p16.2)
                  else
                  (lp_X11_byTurns n xs N d f 54 [some (.ref 16), some (.int y1), some (.int y2), some (.int y3), some (.int (y4 - (0 : Int32))), some (.int (y5 - (1 : Int32))), some (.int y6), some (.int p16.1), some (.int (0 : Int32)), some (.int (y9 + (1 : Int32))), none] [] p16.2))
                else
                (if (0 : Int32) = 0 then
                  (lp_X11_byTurns n xs N d f 54 [some (.ref 16), some (.int y1), some (.int y2), some (.int y3), some (.int (y4 - (0 : Int32))), some (.int (y5 - (0 : Int32))), some (.int y6), some (.int p16.1), some (.int (1 : Int32)), some (.int (y9 + (1 : Int32))), none] [] p16.2)
                  else
                  (lp_X11_byTurns n xs N d f 54 [some (.ref 16), some (.int y1), some (.int y2), some (.int y3), some (.int (y4 - (0 : Int32))), some (.int (y5 - (0 : Int32))), some (.int y6), some (.int p16.1), some (.int (0 : Int32)), some (.int (y9 + (1 : Int32))), none] [] p16.2)))
              else
              (if (0 : Int32) = 0 then
                (if (0 : Int32) = 0 then
                  (lp_X11_byTurns n xs N d f 54 [some (.ref 16), some (.int y1), some (.int y2), some (.int y3), some (.int (y4 - (1 : Int32))), some (.int (y5 - (1 : Int32))), some (.int y6), some (.int p16.1), some (.int (1 : Int32)), some (.int (y9 + (1 : Int32))), none] [] p16.2)
                  else
                  (lp_X11_byTurns n xs N d f 54 [some (.ref 16), some (.int y1), some (.int y2), some (.int y3), some (.int (y4 - (1 : Int32))), some (.int (y5 - (1 : Int32))), some (.int y6), some (.int p16.1), some (.int (0 : Int32)), some (.int (y9 + (1 : Int32))), none] [] p16.2))
                else
                (if (0 : Int32) = 0 then
                  (lp_X11_byTurns n xs N d f 54 [some (.ref 16), some (.int y1), some (.int y2), some (.int y3), some (.int (y4 - (1 : Int32))), some (.int (y5 - (0 : Int32))), some (.int y6), some (.int p16.1), some (.int (1 : Int32)), some (.int (y9 + (1 : Int32))), none] [] p16.2)
                  else
                  (lp_X11_byTurns n xs N d f 54 [some (.ref 16), some (.int y1), some (.int y2), some (.int y3), some (.int (y4 - (1 : Int32))), some (.int (y5 - (0 : Int32))), some (.int y6), some (.int p16.1), some (.int (0 : Int32)), some (.int (y9 + (1 : Int32))), none] [] p16.2)))))))
          else
          (if (1 : Int32) = 0 then
            ((mm_aI (mm_E n xs N d 5 [.ref 35, .int y2] M)).bind fun p17 =>
              ((mm_aI (mm_E n xs N d 116 [.ref 16, .int p17.1, .int y7, .int ((mm_I p17.2 35 1) + y9), .int (mm_I p17.2 35 4)] p17.2)).bind fun p18 =>
              (if (1 : Int32) = 0 then
              (if (1 : Int32) = 0 then
                (if (1 : Int32) = 0 then
                  (lp_X11_byTurns n xs N d f 54 [some (.ref 16), some (.int y1), some (.int y2), some (.int y3), some (.int (y4 - (0 : Int32))), some (.int (y5 - (1 : Int32))), some (.int y6), some (.int p18.1), some (.int (1 : Int32)), some (.int (y9 + (1 : Int32))), none] [] p18.2)
                  else
                  (lp_X11_byTurns n xs N d f 54 [some (.ref 16), some (.int y1), some (.int y2), some (.int y3), some (.int (y4 - (0 : Int32))), some (.int (y5 - (1 : Int32))), some (.int y6), some (.int p18.1), some (.int (0 : Int32)), some (.int (y9 + (1 : Int32))), none] [] p18.2))
                else
                (if (1 : Int32) = 0 then
                  (lp_X11_byTurns n xs N d f 54 [some (.ref 16), some (.int y1), some (.int y2), some (.int y3), some (.int (y4 - (0 : Int32))), some (.int (y5 - (0 : Int32))), some (.int y6), some (.int p18.1), some (.int (1 : Int32)), some (.int (y9 + (1 : Int32))), none] [] p18.2)
                  else
                  (lp_X11_byTurns n xs N d f 54 [some (.ref 16), some (.int y1), some (.int y2), some (.int y3), some (.int (y4 - (0 : Int32))), some (.int (y5 - (0 : Int32))), some (.int y6), some (.int p18.1), some (.int (0 : Int32)), some (.int (y9 + (1 : Int32))), none] [] p18.2)))
              else
              (if (1 : Int32) = 0 then
                (if (1 : Int32) = 0 then
                  (lp_X11_byTurns n xs N d f 54 [some (.ref 16), some (.int y1), some (.int y2), some (.int y3), some (.int (y4 - (1 : Int32))), some (.int (y5 - (1 : Int32))), some (.int y6), some (.int p18.1), some (.int (1 : Int32)), some (.int (y9 + (1 : Int32))), none] [] p18.2)
                  else
                  (lp_X11_byTurns n xs N d f 54 [some (.ref 16), some (.int y1), some (.int y2), some (.int y3), some (.int (y4 - (1 : Int32))), some (.int (y5 - (1 : Int32))), some (.int y6), some (.int p18.1), some (.int (0 : Int32)), some (.int (y9 + (1 : Int32))), none] [] p18.2))
                else
                (if (1 : Int32) = 0 then
                  (lp_X11_byTurns n xs N d f 54 [some (.ref 16), some (.int y1), some (.int y2), some (.int y3), some (.int (y4 - (1 : Int32))), some (.int (y5 - (0 : Int32))), some (.int y6), some (.int p18.1), some (.int (1 : Int32)), some (.int (y9 + (1 : Int32))), none] [] p18.2)
                  else
                  (lp_X11_byTurns n xs N d f 54 [some (.ref 16), some (.int y1), some (.int y2), some (.int y3), some (.int (y4 - (1 : Int32))), some (.int (y5 - (0 : Int32))), some (.int y6), some (.int p18.1), some (.int (0 : Int32)), some (.int (y9 + (1 : Int32))), none] [] p18.2))))))
            else
            ((mm_aI (mm_E n xs N d 5 [.ref 35, .int y1] M)).bind fun p19 =>
              ((mm_aI (mm_E n xs N d 116 [.ref 16, .int p19.1, .int y7, .int ((mm_I p19.2 35 1) + y9), .int (mm_I p19.2 35 4)] p19.2)).bind fun p20 =>
              (if (1 : Int32) = 0 then
              (if (1 : Int32) = 0 then
                (if (1 : Int32) = 0 then
                  (lp_X11_byTurns n xs N d f 54 [some (.ref 16), some (.int y1), some (.int y2), some (.int y3), some (.int (y4 - (0 : Int32))), some (.int (y5 - (1 : Int32))), some (.int y6), some (.int p20.1), some (.int (1 : Int32)), some (.int (y9 + (1 : Int32))), none] [] p20.2)
                  else
                  (lp_X11_byTurns n xs N d f 54 [some (.ref 16), some (.int y1), some (.int y2), some (.int y3), some (.int (y4 - (0 : Int32))), some (.int (y5 - (1 : Int32))), some (.int y6), some (.int p20.1), some (.int (0 : Int32)), some (.int (y9 + (1 : Int32))), none] [] p20.2))
                else
                (if (1 : Int32) = 0 then
                  (lp_X11_byTurns n xs N d f 54 [some (.ref 16), some (.int y1), some (.int y2), some (.int y3), some (.int (y4 - (0 : Int32))), some (.int (y5 - (0 : Int32))), some (.int y6), some (.int p20.1), some (.int (1 : Int32)), some (.int (y9 + (1 : Int32))), none] [] p20.2)
                  else
                  (lp_X11_byTurns n xs N d f 54 [some (.ref 16), some (.int y1), some (.int y2), some (.int y3), some (.int (y4 - (0 : Int32))), some (.int (y5 - (0 : Int32))), some (.int y6), some (.int p20.1), some (.int (0 : Int32)), some (.int (y9 + (1 : Int32))), none] [] p20.2)))
              else
              (if (1 : Int32) = 0 then
                (if (1 : Int32) = 0 then
                  (lp_X11_byTurns n xs N d f 54 [some (.ref 16), some (.int y1), some (.int y2), some (.int y3), some (.int (y4 - (1 : Int32))), some (.int (y5 - (1 : Int32))), some (.int y6), some (.int p20.1), some (.int (1 : Int32)), some (.int (y9 + (1 : Int32))), none] [] p20.2)
                  else
                  (lp_X11_byTurns n xs N d f 54 [some (.ref 16), some (.int y1), some (.int y2), some (.int y3), some (.int (y4 - (1 : Int32))), some (.int (y5 - (1 : Int32))), some (.int y6), some (.int p20.1), some (.int (0 : Int32)), some (.int (y9 + (1 : Int32))), none] [] p20.2))
                else
                (if (1 : Int32) = 0 then
                  (lp_X11_byTurns n xs N d f 54 [some (.ref 16), some (.int y1), some (.int y2), some (.int y3), some (.int (y4 - (1 : Int32))), some (.int (y5 - (0 : Int32))), some (.int y6), some (.int p20.1), some (.int (1 : Int32)), some (.int (y9 + (1 : Int32))), none] [] p20.2)
                  else
                  (lp_X11_byTurns n xs N d f 54 [some (.ref 16), some (.int y1), some (.int y2), some (.int y3), some (.int (y4 - (1 : Int32))), some (.int (y5 - (0 : Int32))), some (.int y6), some (.int p20.1), some (.int (0 : Int32)), some (.int (y9 + (1 : Int32))), none] [] p20.2))))))))))
    else
    some (some (.int y9), M))) := by exact rfl
set_option maxRecDepth 40000 in
set_option maxHeartbeats 4000000 in
theorem u_X11_row (n : Nat) (xs : Nat → Int32) (N d : Nat) (M : mmM) (x1 : Int32) : mm_E n xs N (d + 1) 149 [.ref 16, .int x1] M =
  (if (mm_I M 16 16) = 0 then
  some (some (.int (-1 : Int32)), M)
  else
  ((mm_aI (mm_E n xs N d 176 [.int (0 : Int32), .int x1, .int (2 : Int32)] M)).bind fun p1 =>
    (if p1.1 = 0 then
    some (some (.int (-1 : Int32)), p1.2)
    else
    ((mm_aI (mm_E n xs N d 55 [.ref 52] p1.2)).bind fun p2 =>
      (if x1 = 0 then
      (if p2.1 = 0 then
        some (some (.int (-1 : Int32)), p2.2)
        else
        ((mm_aI (mm_E n xs N d 56 [.ref 52, .int p2.1] p2.2)).bind fun p3 =>
          some (some (.int p3.1), p3.2)))
      else
      (if x1 = (1 : Int32) then
        ((mm_aI (mm_E n xs N d 57 [.ref 52, .int p2.1] p2.2)).bind fun p4 =>
          some (some (.int p4.1), p4.2))
        else
        ((mm_aI (mm_E n xs N d 58 [.ref 52, .int p2.1] p2.2)).bind fun p5 =>
          some (some (.int p5.1), p5.2)))))))) := by exact rfl
noncomputable def lp_X11_lasts (n : Nat) (xs : Nat → Int32) (N d f t : Nat) : mmK := mm_lp (mm_Y n xs) (mm_E n xs N d) cd_X11_lasts.1 cd_X11_lasts.2.1 f t
set_option maxRecDepth 40000 in
set_option maxHeartbeats 4000000 in
theorem u_X11_lasts (n : Nat) (xs : Nat → Int32) (N d : Nat) (M : mmM)  : mm_E n xs N (d + 1) 150 [.ref 16] M =
  (if (mm_I M 16 16) = 0 then
  some (some (.int (-1 : Int32)), M)
  else
  ((mm_aI (mm_E n xs N d 121 [.ref 16] M)).bind fun p1 =>
    (lp_X11_lasts n xs N d N 24 [none, some (.int p1.1), some (.int (mm_I p1.2 35 0)), some (.int (0 : Int32))] [] p1.2))) := by exact rfl
set_option maxRecDepth 40000 in
set_option maxHeartbeats 4000000 in
theorem lu_X11_lasts_24 (n : Nat) (xs : Nat → Int32) (N d f : Nat) (M : mmM) (y1 : Int32) (y2 : Int32) (y3 : Int32) : lp_X11_lasts n xs N d (f + 1) 24 [none, some (.int y1), some (.int y2), some (.int y3)] [] M =
  (if (60 : Int32) < y3 then
  some (some (.int (-1 : Int32)), M)
  else
  (if y2 = 0 then
    some (some (.int y3), M)
    else
    ((mm_aI (mm_E n xs N d 122 [.int y2, .int y1] M)).bind fun p2 =>
      (lp_X11_lasts n xs N d f 24 [none, some (.int y1), some (.int p2.1), some (.int (y3 + (1 : Int32)))] [] p2.2)))) := by exact rfl
set_option maxRecDepth 40000 in
set_option maxHeartbeats 4000000 in
theorem u_X11_holds (n : Nat) (xs : Nat → Int32) (N d : Nat) (M : mmM) (x1 : Int32) : mm_E n xs N (d + 1) 151 [.ref 16, .int x1] M =
  (if (mm_I M 16 16) = 0 then
  some (some (.int (-1 : Int32)), M)
  else
  ((mm_aI (mm_E n xs N d 176 [.int (0 : Int32), .int x1, .int (20 : Int32)] M)).bind fun p1 =>
    (if p1.1 = 0 then
    some (some (.int (-1 : Int32)), p1.2)
    else
    ((mm_aI (mm_E n xs N d 121 [.ref 16] p1.2)).bind fun p2 =>
      (if (99 : Int32) < ((x1 * p2.1) + (1 : Int32)) then
      some (some (.int (-1 : Int32)), p2.2)
      else
      some (some (.int ((x1 * p2.1) + (1 : Int32))), p2.2)))))) := by exact rfl
set_option maxRecDepth 40000 in
set_option maxHeartbeats 4000000 in
theorem u_X11_seen (n : Nat) (xs : Nat → Int32) (N d : Nat) (M : mmM) (x1 : Int32) (x2 : Int32) (x3 : Int32) (x4 : Int32) : mm_E n xs N (d + 1) 152 [.ref 16, .int x1, .int x2, .int x3, .int x4] M =
  ((mm_aI (mm_E n xs N d 108 [.ref 16, .int x1] M)).bind fun p1 =>
  (if p1.1 = 0 then
  some (some (.int (-1 : Int32)), p1.2)
  else
  ((mm_aI (mm_E n xs N d 176 [.int (1 : Int32), .int x2, .int (40 : Int32)] p1.2)).bind fun p2 =>
    (if p2.1 = 0 then
    some (some (.int (-1 : Int32)), p2.2)
    else
    ((mm_aI (mm_E n xs N d 177 [.int x3] p2.2)).bind fun p3 =>
      (if p3.1 = 0 then
      some (some (.int (-1 : Int32)), p3.2)
      else
      ((mm_aI (mm_E n xs N d 64 [.ref 47] p3.2)).bind fun p4 =>
        (if p4.1 = 0 then
        ((mm_aV (mm_E n xs N d 66 [.ref 47, .int x1, .int x2, .int x3, .int x4] p4.2)).bind fun p5 =>
          ((mm_aI (mm_E n xs N d 63 [.ref 47] p5)).bind fun p6 =>
          some (some (.int p6.1), p6.2)))
        else
        some (some (.int (-1 : Int32)), p4.2))))))))) := by exact rfl
set_option maxRecDepth 40000 in
set_option maxHeartbeats 4000000 in
theorem u_X11_fits (n : Nat) (xs : Nat → Int32) (N d : Nat) (M : mmM) (x1 : Int32) : mm_E n xs N (d + 1) 153 [.ref 16, .int x1] M =
  (if (mm_I M 16 16) = 0 then
  some (some (.int (-1 : Int32)), M)
  else
  ((mm_aI (mm_E n xs N d 155 [.ref 16] M)).bind fun p1 =>
    (if x1 = (-1 : Int32) then
    ((mm_aI (mm_E n xs N d 299 [.int p1.1] p1.2)).bind fun p2 =>
      some (some (.int p2.1), p2.2))
    else
    ((mm_aI (mm_E n xs N d 154 [.int p1.1, .int x1] p1.2)).bind fun p3 =>
      some (some (.int p3.1), p3.2))))) := by exact rfl
noncomputable def lp_X11_placeOfBit (n : Nat) (xs : Nat → Int32) (N d f t : Nat) : mmK := mm_lp (mm_Y n xs) (mm_E n xs N d) cd_X11_placeOfBit.1 cd_X11_placeOfBit.2.1 f t
set_option maxRecDepth 40000 in
set_option maxHeartbeats 4000000 in
theorem u_X11_placeOfBit (n : Nat) (xs : Nat → Int32) (N d : Nat) (M : mmM) (x1 : Int32) (x2 : Int32) : mm_E n xs N (d + 1) 154 [.int x1, .int x2] M =
  (lp_X11_placeOfBit n xs N d N 4 [some (.int x1), some (.int x2), some (.int (0 : Int32)), some (.int (0 : Int32))] [] M) := by exact rfl
set_option maxRecDepth 40000 in
set_option maxHeartbeats 4000000 in
theorem lu_X11_placeOfBit_4 (n : Nat) (xs : Nat → Int32) (N d f : Nat) (M : mmM) (y0 : Int32) (y1 : Int32) (y2 : Int32) (y3 : Int32) : lp_X11_placeOfBit n xs N d (f + 1) 4 [some (.int y0), some (.int y1), some (.int y2), some (.int y3)] [] M =
  (if (31 : Int32) ≤ y3 then
  some (some (.int (-1 : Int32)), M)
  else
  (if ((y0 >>> (y3 &&& 31)) &&& (1 : Int32)) = 0 then
    (lp_X11_placeOfBit n xs N d f 4 [some (.int y0), some (.int y1), some (.int y2), some (.int (y3 + (1 : Int32)))] [] M)
    else
    (if y2 = y1 then
      some (some (.int y3), M)
      else
      (lp_X11_placeOfBit n xs N d f 4 [some (.int y0), some (.int y1), some (.int (y2 + (1 : Int32))), some (.int (y3 + (1 : Int32)))] [] M)))) := by exact rfl
noncomputable def lp_X11_fittingYolks (n : Nat) (xs : Nat → Int32) (N d f t : Nat) : mmK := mm_lp (mm_Y n xs) (mm_E n xs N d) cd_X11_fittingYolks.1 cd_X11_fittingYolks.2.1 f t
set_option maxRecDepth 40000 in
set_option maxHeartbeats 4000000 in
theorem u_X11_fittingYolks (n : Nat) (xs : Nat → Int32) (N d : Nat) (M : mmM)  : mm_E n xs N (d + 1) 155 [.ref 16] M =
  (lp_X11_fittingYolks n xs N d N 4 [some (.ref 16), some (.int (0 : Int32)), some (.int (0 : Int32))] [] M) := by exact rfl
set_option maxRecDepth 40000 in
set_option maxHeartbeats 4000000 in
theorem lu_X11_fittingYolks_4 (n : Nat) (xs : Nat → Int32) (N d f : Nat) (M : mmM) (y1 : Int32) (y2 : Int32) : lp_X11_fittingYolks n xs N d (f + 1) 4 [some (.ref 16), some (.int y1), some (.int y2)] [] M =
  (if (9 : Int32) < y2 then
  some (some (.int y1), M)
  else
  ((mm_aI (mm_E n xs N d 156 [.ref 16, .int y2] M)).bind fun p1 =>
    (if p1.1 = 0 then
    (lp_X11_fittingYolks n xs N d f 4 [some (.ref 16), some (.int (y1 ||| (0 : Int32))), some (.int (y2 + (1 : Int32)))] [] p1.2)
    else
    (lp_X11_fittingYolks n xs N d f 4 [some (.ref 16), some (.int (y1 ||| ((1 : Int32) <<< (y2 &&& 31)))), some (.int (y2 + (1 : Int32)))] [] p1.2)))) := by exact rfl
noncomputable def lp_X11_isFitting (n : Nat) (xs : Nat → Int32) (N d f t : Nat) : mmK := mm_lp (mm_Y n xs) (mm_E n xs N d) cd_X11_isFitting.1 cd_X11_isFitting.2.1 f t
set_option maxRecDepth 40000 in
set_option maxHeartbeats 4000000 in
theorem u_X11_isFitting (n : Nat) (xs : Nat → Int32) (N d : Nat) (M : mmM) (x1 : Int32) : mm_E n xs N (d + 1) 156 [.ref 16, .int x1] M =
  (lp_X11_isFitting n xs N d N 2 [some (.ref 16), some (.int x1), some (.int (0 : Int32)), none, none, none, none] [] M) := by exact rfl
set_option maxRecDepth 40000 in
set_option maxHeartbeats 4000000 in
theorem lu_X11_isFitting_2 (n : Nat) (xs : Nat → Int32) (N d f : Nat) (M : mmM) (y1 : Int32) (y2 : Int32) : lp_X11_isFitting n xs N d (f + 1) 2 [some (.ref 16), some (.int y1), some (.int y2), none, none, none, none] [] M =
  ((mm_aI (mm_E n xs N d 86 [.ref 32, .int (1 : Int32)] M)).bind fun p1 =>
  (if p1.1 ≤ y2 then
  some (some (.int (1 : Int32)), p1.2)
  else
  ((mm_aI (mm_E n xs N d 5 [.ref 35, .int y2] p1.2)).bind fun p2 =>
    ((mm_aI (mm_E n xs N d 67 [.ref 47, .int y2] p2.2)).bind fun p3 =>
    (lp_X11_isFitting n xs N d f 39 [some (.ref 16), some (.int y1), some (.int y2), some (.int p2.1), some (.int p3.1), some (.int (0 : Int32)), some (.int (1 : Int32))] [] p3.2))))) := by exact rfl
set_option maxRecDepth 40000 in
set_option maxHeartbeats 4000000 in
theorem lu_X11_isFitting_39 (n : Nat) (xs : Nat → Int32) (N d f : Nat) (M : mmM) (y1 : Int32) (y2 : Int32) (y3 : Int32) (y4 : Int32) (y5 : Int32) (y6 : Int32) : lp_X11_isFitting n xs N d (f + 1) 39 [some (.ref 16), some (.int y1), some (.int y2), some (.int y3), some (.int y4), some (.int y5), some (.int y6)] [] M =
  (if y4 < y6 then
  (lp_X11_isFitting n xs N d f 2 [some (.ref 16), some (.int y1), some (.int (y2 + (1 : Int32))), none, none, none, none] [] M)
  else
  ((mm_aI (mm_E n xs N d 116 [.ref 16, .int y3, .int y5, .int (y6 - (1 : Int32)), .int y1] M)).bind fun p4 =>
    ((mm_aI (mm_E n xs N d 68 [.ref 47, .int y2, .int y6, .int p4.1] p4.2)).bind fun p5 =>
    (if p5.1 = 0 then
    (lp_X11_isFitting n xs N d f 39 [some (.ref 16), some (.int y1), some (.int y2), some (.int y3), some (.int y4), some (.int p4.1), some (.int (y6 + (1 : Int32)))] [] p5.2)
    else
    some (some (.int (0 : Int32)), p5.2))))) := by exact rfl
noncomputable def lp_X11_probe (n : Nat) (xs : Nat → Int32) (N d f t : Nat) : mmK := mm_lp (mm_Y n xs) (mm_E n xs N d) cd_X11_probe.1 cd_X11_probe.2.1 f t
set_option maxRecDepth 40000 in
set_option maxHeartbeats 4000000 in
theorem u_X11_probe (n : Nat) (xs : Nat → Int32) (N d : Nat) (M : mmM) (x1 : Int32) (x2 : Int32) : mm_E n xs N (d + 1) 157 [.ref 16, .int x1, .int x2] M =
  ((mm_aI (mm_E n xs N d 108 [.ref 16, .int x1] M)).bind fun p1 =>
  (if p1.1 = 0 then
  some (some (.int (-1 : Int32)), p1.2)
  else
  ((mm_aI (mm_E n xs N d 177 [.int x2] p1.2)).bind fun p2 =>
    (if p2.1 = 0 then
    some (some (.int (-1 : Int32)), p2.2)
    else
    ((mm_aI (mm_E n xs N d 155 [.ref 16] p2.2)).bind fun p3 =>
      (if p3.1 = 0 then
      some (some (.int (-1 : Int32)), p3.2)
      else
      ((mm_aV (mm_E n xs N d 306 [.ref 58, .int (0 : Int32)] p3.2)).bind fun p4 =>
        (lp_X11_probe n xs N d N 45 [some (.ref 16), some (.int x1), some (.int x2), some (.int p3.1), some (.int (-1 : Int32)), some (.int (0 : Int32)), some (.int (1 : Int32)), none, none] [] p4)))))))) := by exact rfl
set_option maxRecDepth 40000 in
set_option maxHeartbeats 4000000 in
theorem lu_X11_probe_45 (n : Nat) (xs : Nat → Int32) (N d f : Nat) (M : mmM) (y1 : Int32) (y2 : Int32) (y3 : Int32) (y4 : Int32) (y5 : Int32) (y6 : Int32) : lp_X11_probe n xs N d (f + 1) 45 [some (.ref 16), some (.int y1), some (.int y2), some (.int y3), some (.int y4), some (.int y5), some (.int y6), none, none] [] M =
  (if (40 : Int32) < y6 then
  some (some (.int y4), M)
  else
  ((mm_aI (mm_E n xs N d 5 [.ref 35, .int y1] M)).bind fun p5 =>
    ((mm_aI (mm_E n xs N d 158 [.ref 16, .int y3, .int p5.1, .int (y6 - (1 : Int32)), .int y2] p5.2)).bind fun p6 =>
    ((mm_aI (mm_E n xs N d 299 [.int y3] p6.2)).bind fun p7 =>
    ((mm_aI (mm_E n xs N d 301 [.int (((2 : Int32) * p6.1) - p7.1)] p7.2)).bind fun p8 =>
    (if y4 = (-1 : Int32) then
    (lp_X11_probe n xs N d f 45 [some (.ref 16), some (.int y1), some (.int y2), some (.int y3), some (.int y6), some (.int p8.1), some (.int (y6 + (1 : Int32))), none, none] [] p8.2)
    else
    (if y5 ≤ p8.1 then
      (lp_X11_probe n xs N d f 45 [some (.ref 16), some (.int y1), some (.int y2), some (.int y3), some (.int y4), some (.int y5), some (.int (y6 + (1 : Int32))), none, none] [] p8.2)
      else
      (lp_X11_probe n xs N d f 45 [some (.ref 16), some (.int y1), some (.int y2), some (.int y3), some (.int y6), some (.int p8.1), some (.int (y6 + (1 : Int32))), none, none] [] p8.2)))))))) := by exact rfl
noncomputable def lp_X11_whiskAllYolks (n : Nat) (xs : Nat → Int32) (N d f t : Nat) : mmK := mm_lp (mm_Y n xs) (mm_E n xs N d) cd_X11_whiskAllYolks.1 cd_X11_whiskAllYolks.2.1 f t
set_option maxRecDepth 40000 in
set_option maxHeartbeats 4000000 in
theorem u_X11_whiskAllYolks (n : Nat) (xs : Nat → Int32) (N d : Nat) (M : mmM) (x1 : Int32) (x2 : Int32) (x3 : Int32) (x4 : Int32) : mm_E n xs N (d + 1) 158 [.ref 16, .int x1, .int x2, .int x3, .int x4] M =
  (lp_X11_whiskAllYolks n xs N d N 6 [some (.ref 16), some (.int x1), some (.int x2), some (.int x3), some (.int x4), some (.int (0 : Int32)), some (.int (0 : Int32))] [] M) := by exact rfl
set_option maxRecDepth 40000 in
set_option maxHeartbeats 4000000 in
theorem lu_X11_whiskAllYolks_6 (n : Nat) (xs : Nat → Int32) (N d f : Nat) (M : mmM) (y1 : Int32) (y2 : Int32) (y3 : Int32) (y4 : Int32) (y5 : Int32) (y6 : Int32) : lp_X11_whiskAllYolks n xs N d (f + 1) 6 [some (.ref 16), some (.int y1), some (.int y2), some (.int y3), some (.int y4), some (.int y5), some (.int y6)] [] M =
  (if (Int32.ofNat 10) ≤ y6 then
  some (some (.int y5), M)
  else
  (if ((y1 >>> (y6 &&& 31)) &&& (1 : Int32)) = 0 then
    (lp_X11_whiskAllYolks n xs N d f 6 [some (.ref 16), some (.int y1), some (.int y2), some (.int y3), some (.int y4), some (.int y5), some (.int (y6 + (1 : Int32)))] [] M)
    else
    (cond (mm_inb y6 10)
      ((mm_aI (mm_E n xs N d 116 [.ref 16, .int y2, .int (mm_I M 58 y6.toNatClampNeg), .int y3, .int y6] M)).bind fun p1 =>
        (cond (mm_inb y6 10 && Nat.ble 16 58)
        (cond (mm_inb y6 10)
          (if (mm_I (mm_wI p1.2 58 y6.toNatClampNeg p1.1) 58 y6.toNatClampNeg) < y4 then
            (lp_X11_whiskAllYolks n xs N d f 6 [some (.ref 16), some (.int y1), some (.int y2), some (.int y3), some (.int y4), some (.int (y5 + (0 : Int32))), some (.int (y6 + (1 : Int32)))] [] (mm_wI p1.2 58 y6.toNatClampNeg p1.1))
            else
            (lp_X11_whiskAllYolks n xs N d f 6 [some (.ref 16), some (.int y1), some (.int y2), some (.int y3), some (.int y4), some (.int (y5 + (1 : Int32))), some (.int (y6 + (1 : Int32)))] [] (mm_wI p1.2 58 y6.toNatClampNeg p1.1))) none) none)) none))) := by exact rfl
set_option maxRecDepth 40000 in
set_option maxHeartbeats 4000000 in
theorem u_X11_game (n : Nat) (xs : Nat → Int32) (N d : Nat) (M : mmM) (x1 : Int32) (x2 : Int32) (x3 : Int32) (x4 : Int32) (x5 : Int32) : mm_E n xs N (d + 1) 159 [.ref 16, .int x1, .int x2, .int x3, .int x4, .int x5] M =
  ((mm_aI (mm_E n xs N d 176 [.int (0 : Int32), .int x3, .int (5 : Int32)] M)).bind fun p1 =>
  (if p1.1 = 0 then
  ((mm_aI (mm_E n xs N d 109 [.ref 16, .int x1, .int x2] p1.2)).bind fun p2 =>
    (if p2.1 = 0 then
    some (some (.int (-1000000 : Int32)), p2.2)
    else
    (if (0 : Int32) = 0 then
      some (some (.int (-1000000 : Int32)), p2.2)
      else
      ((mm_aI (mm_E n xs N d 176 [.int (0 : Int32), .int x5, .int (1 : Int32)] p2.2)).bind fun p3 =>
        (if p3.1 = 0 then
        some (some (.int (-1000000 : Int32)), p3.2)
        else
        ((mm_aI (mm_E n xs N d 5 [.ref 35, .int x1] p3.2)).bind fun p4 =>
          ((mm_aI (mm_E n xs N d 143 [.ref 16, .int p4.1, .int (mm_I p4.2 35 0), .int (mm_I p4.2 35 1), .int (mm_I p4.2 35 4), .int x3] p4.2)).bind fun p5 =>
          ((mm_aI (mm_E n xs N d 5 [.ref 35, .int x2] p5.2)).bind fun p6 =>
          ((mm_aI (mm_E n xs N d 143 [.ref 16, .int p6.1, .int p5.1, .int ((mm_I p6.2 35 1) + x3), .int (mm_I p6.2 35 4), .int x4] p6.2)).bind fun p7 =>
          (if (4 : Int32) = 0 then none else
          (if x5 = 0 then
          some (some (.int ((p7.1 / (4 : Int32)) - x3)), p7.2)
          else
          some (some (.int ((p7.1 / (4 : Int32)) - x4)), p7.2))))))))))))
  else
  ((mm_aI (mm_E n xs N d 176 [.int (0 : Int32), .int x4, .int (5 : Int32)] p1.2)).bind fun p8 =>
    (if p8.1 = 0 then
    ((mm_aI (mm_E n xs N d 109 [.ref 16, .int x1, .int x2] p8.2)).bind fun p9 =>
      (if p9.1 = 0 then
      some (some (.int (-1000000 : Int32)), p9.2)
      else
      (if (0 : Int32) = 0 then
        some (some (.int (-1000000 : Int32)), p9.2)
        else
        ((mm_aI (mm_E n xs N d 176 [.int (0 : Int32), .int x5, .int (1 : Int32)] p9.2)).bind fun p10 =>
          (if p10.1 = 0 then
          some (some (.int (-1000000 : Int32)), p10.2)
          else
          ((mm_aI (mm_E n xs N d 5 [.ref 35, .int x1] p10.2)).bind fun p11 =>
            ((mm_aI (mm_E n xs N d 143 [.ref 16, .int p11.1, .int (mm_I p11.2 35 0), .int (mm_I p11.2 35 1), .int (mm_I p11.2 35 4), .int x3] p11.2)).bind fun p12 =>
            ((mm_aI (mm_E n xs N d 5 [.ref 35, .int x2] p12.2)).bind fun p13 =>
            ((mm_aI (mm_E n xs N d 143 [.ref 16, .int p13.1, .int p12.1, .int ((mm_I p13.2 35 1) + x3), .int (mm_I p13.2 35 4), .int x4] p13.2)).bind fun p14 =>
            (if (4 : Int32) = 0 then none else
            (if x5 = 0 then
            some (some (.int ((p14.1 / (4 : Int32)) - x3)), p14.2)
            else
            some (some (.int ((p14.1 / (4 : Int32)) - x4)), p14.2))))))))))))
    else
    ((mm_aI (mm_E n xs N d 109 [.ref 16, .int x1, .int x2] p8.2)).bind fun p15 =>
      (if p15.1 = 0 then
      some (some (.int (-1000000 : Int32)), p15.2)
      else
      (if (1 : Int32) = 0 then
        some (some (.int (-1000000 : Int32)), p15.2)
        else
        ((mm_aI (mm_E n xs N d 176 [.int (0 : Int32), .int x5, .int (1 : Int32)] p15.2)).bind fun p16 =>
          (if p16.1 = 0 then
          some (some (.int (-1000000 : Int32)), p16.2)
          else
          ((mm_aI (mm_E n xs N d 5 [.ref 35, .int x1] p16.2)).bind fun p17 =>
            ((mm_aI (mm_E n xs N d 143 [.ref 16, .int p17.1, .int (mm_I p17.2 35 0), .int (mm_I p17.2 35 1), .int (mm_I p17.2 35 4), .int x3] p17.2)).bind fun p18 =>
            ((mm_aI (mm_E n xs N d 5 [.ref 35, .int x2] p18.2)).bind fun p19 =>
            ((mm_aI (mm_E n xs N d 143 [.ref 16, .int p19.1, .int p18.1, .int ((mm_I p19.2 35 1) + x3), .int (mm_I p19.2 35 4), .int x4] p19.2)).bind fun p20 =>
            (if (4 : Int32) = 0 then none else
            (if x5 = 0 then
            some (some (.int ((p20.1 / (4 : Int32)) - x3)), p20.2)
            else
            some (some (.int ((p20.1 / (4 : Int32)) - x4)), p20.2)))))))))))))))) := by exact rfl
noncomputable def lp_X11_rests (n : Nat) (xs : Nat → Int32) (N d f t : Nat) : mmK := mm_lp (mm_Y n xs) (mm_E n xs N d) cd_X11_rests.1 cd_X11_rests.2.1 f t
set_option maxRecDepth 40000 in
set_option maxHeartbeats 4000000 in
theorem u_X11_rests (n : Nat) (xs : Nat → Int32) (N d : Nat) (M : mmM) (x1 : Int32) (x2 : Int32) (x3 : Int32) : mm_E n xs N (d + 1) 160 [.ref 16, .int x1, .int x2, .int x3] M =
  ((mm_aI (mm_E n xs N d 109 [.ref 16, .int x1, .int x2] M)).bind fun p1 =>
  (if p1.1 = 0 then
  some (some (.int (-1 : Int32)), p1.2)
  else
  ((mm_aV (mm_E n xs N d 161 [.ref 16, .int x1, .int x2] p1.2)).bind fun p2 =>
    (lp_X11_rests n xs N d N 23 [some (.ref 16), none, none, some (.int x3), some (.int (0 : Int32)), some (.int (0 : Int32)), none, none] [] p2)))) := by exact rfl
set_option maxRecDepth 40000 in
set_option maxHeartbeats 4000000 in
theorem lu_X11_rests_23 (n : Nat) (xs : Nat → Int32) (N d f : Nat) (M : mmM) (y3 : Int32) (y4 : Int32) (y5 : Int32) : lp_X11_rests n xs N d (f + 1) 23 [some (.ref 16), none, none, some (.int y3), some (.int y4), some (.int y5), none, none] [] M =
  (if (Int32.ofNat 36) ≤ y5 then
  (if y3 = (-1 : Int32) then
    some (some (.int y4), M)
    else
    some (some (.int (-1 : Int32)), M))
  else
  (if (6 : Int32) = 0 then none else
    (if (6 : Int32) = 0 then none else
    ((mm_aI (mm_E n xs N d 163 [.ref 16, .int (y5 / (6 : Int32)), .int (y5 - y5 / (6 : Int32) * (6 : Int32))] M)).bind fun p3 =>
    (if p3.1 = 0 then
    (lp_X11_rests n xs N d f 23 [some (.ref 16), none, none, some (.int y3), some (.int y4), some (.int (y5 + (1 : Int32))), none, none] [] p3.2)
    else
    (if y4 = y3 then
      some (some (.int (((10 : Int32) * (y5 / (6 : Int32))) + (y5 - y5 / (6 : Int32) * (6 : Int32)))), p3.2)
      else
      (lp_X11_rests n xs N d f 23 [some (.ref 16), none, none, some (.int y3), some (.int (y4 + (1 : Int32))), some (.int (y5 + (1 : Int32))), none, none] [] p3.2))))))) := by exact rfl
noncomputable def lp_X11_playAll (n : Nat) (xs : Nat → Int32) (N d f t : Nat) : mmK := mm_lp (mm_Y n xs) (mm_E n xs N d) cd_X11_playAll.1 cd_X11_playAll.2.1 f t
set_option maxRecDepth 40000 in
set_option maxHeartbeats 4000000 in
theorem u_X11_playAll (n : Nat) (xs : Nat → Int32) (N d : Nat) (M : mmM) (x1 : Int32) (x2 : Int32) : mm_E n xs N (d + 1) 161 [.ref 16, .int x1, .int x2] M =
  (lp_X11_playAll n xs N d N 11 [some (.ref 16), some (.int x1), some (.int x2), some (.int (mm_I M 35 0)), some (.int (0 : Int32)), none, none, none] [] M) := by exact rfl
set_option maxRecDepth 40000 in
set_option maxHeartbeats 4000000 in
theorem lu_X11_playAll_11 (n : Nat) (xs : Nat → Int32) (N d f : Nat) (M : mmM) (y1 : Int32) (y2 : Int32) (y3 : Int32) (y4 : Int32) : lp_X11_playAll n xs N d (f + 1) 11 [some (.ref 16), some (.int y1), some (.int y2), some (.int y3), some (.int y4), none, none, none] [] M =
  (if (6 : Int32) ≤ y4 then
  some (none, M)
  else
  (lp_X11_playAll n xs N d f 24 [some (.ref 16), some (.int y1), some (.int y2), some (.int y3), some (.int y4), some (.int y3), some (.int (0 : Int32)), none] [] M)) := by exact rfl
set_option maxRecDepth 40000 in
set_option maxHeartbeats 4000000 in
theorem lu_X11_playAll_24 (n : Nat) (xs : Nat → Int32) (N d f : Nat) (M : mmM) (y1 : Int32) (y2 : Int32) (y3 : Int32) (y4 : Int32) (y5 : Int32) (y6 : Int32) : lp_X11_playAll n xs N d (f + 1) 24 [some (.ref 16), some (.int y1), some (.int y2), some (.int y3), some (.int y4), some (.int y5), some (.int y6), none] [] M =
  (if (6 : Int32) ≤ y6 then
  ((mm_aI (mm_E n xs N d 5 [.ref 35, .int y1] M)).bind fun p1 =>
    ((mm_aI (mm_E n xs N d 116 [.ref 16, .int p1.1, .int y3, .int ((mm_I p1.2 35 1) + y4), .int (mm_I p1.2 35 4)] p1.2)).bind fun p2 =>
    (lp_X11_playAll n xs N d f 11 [some (.ref 16), some (.int y1), some (.int y2), some (.int p2.1), some (.int (y4 + (1 : Int32))), none, none, none] [] p2.2)))
  else
  (if (Int32.ofNat 36) ≤ ((y4 * (6 : Int32)) + y6) then
    ((mm_aI (mm_E n xs N d 5 [.ref 35, .int y2] M)).bind fun p3 =>
      ((mm_aI (mm_E n xs N d 116 [.ref 16, .int p3.1, .int y5, .int (((mm_I p3.2 35 1) + y4) + y6), .int (mm_I p3.2 35 4)] p3.2)).bind fun p4 =>
      (lp_X11_playAll n xs N d f 24 [some (.ref 16), some (.int y1), some (.int y2), some (.int y3), some (.int y4), some (.int p4.1), some (.int (y6 + (1 : Int32))), none] [] p4.2)))
    else
    (cond (mm_inb ((y4 * (6 : Int32)) + y6) 36 && Nat.ble 16 59)
      ((mm_aI (mm_E n xs N d 5 [.ref 35, .int y2] (mm_wI M 59 (((y4 * (6 : Int32)) + y6).toNatClampNeg) y5))).bind fun p5 =>
        ((mm_aI (mm_E n xs N d 116 [.ref 16, .int p5.1, .int y5, .int (((mm_I p5.2 35 1) + y4) + y6), .int (mm_I p5.2 35 4)] p5.2)).bind fun p6 =>
        (lp_X11_playAll n xs N d f 24 [some (.ref 16), some (.int y1), some (.int y2), some (.int y3), some (.int y4), some (.int p6.1), some (.int (y6 + (1 : Int32))), none] [] p6.2))) none))) := by exact rfl
set_option maxRecDepth 40000 in
set_option maxHeartbeats 4000000 in
theorem u_X11_quarterOf (n : Nat) (xs : Nat → Int32) (N d : Nat) (M : mmM) (x1 : Int32) (x2 : Int32) : mm_E n xs N (d + 1) 162 [.ref 16, .int x1, .int x2] M =
  ((mm_aI (mm_E n xs N d 176 [.int (0 : Int32), .int ((x1 * (6 : Int32)) + x2), .int ((Int32.ofNat 36) - (1 : Int32))] M)).bind fun p1 =>
  (if p1.1 = 0 then
  some (some (.int (0 : Int32)), p1.2)
  else
  (cond (mm_inb ((x1 * (6 : Int32)) + x2) 36)
    (if (4 : Int32) = 0 then none else
      some (some (.int ((mm_I p1.2 59 (((x1 * (6 : Int32)) + x2).toNatClampNeg)) / (4 : Int32))), p1.2)) none))) := by exact rfl
noncomputable def lp_X11_isRest (n : Nat) (xs : Nat → Int32) (N d f t : Nat) : mmK := mm_lp (mm_Y n xs) (mm_E n xs N d) cd_X11_isRest.1 cd_X11_isRest.2.1 f t
set_option maxRecDepth 40000 in
set_option maxHeartbeats 4000000 in
theorem u_X11_isRest (n : Nat) (xs : Nat → Int32) (N d : Nat) (M : mmM) (x1 : Int32) (x2 : Int32) : mm_E n xs N (d + 1) 163 [.ref 16, .int x1, .int x2] M =
  ((mm_aI (mm_E n xs N d 162 [.ref 16, .int x1, .int x2] M)).bind fun p1 =>
  (lp_X11_isRest n xs N d N 10 [some (.ref 16), some (.int x1), some (.int x2), some (.int p1.1), some (.int (0 : Int32))] [] p1.2)) := by exact rfl
set_option maxRecDepth 40000 in
set_option maxHeartbeats 4000000 in
theorem lu_X11_isRest_10 (n : Nat) (xs : Nat → Int32) (N d f : Nat) (M : mmM) (y1 : Int32) (y2 : Int32) (y3 : Int32) (y4 : Int32) : lp_X11_isRest n xs N d (f + 1) 10 [some (.ref 16), some (.int y1), some (.int y2), some (.int y3), some (.int y4)] [] M =
  (if (6 : Int32) ≤ y4 then
  some (some (.int (1 : Int32)), M)
  else
  ((mm_aI (mm_E n xs N d 162 [.ref 16, .int y4, .int y2] M)).bind fun p2 =>
    (if (y3 - y1) < (p2.1 - y4) then
    some (some (.int (0 : Int32)), p2.2)
    else
    ((mm_aI (mm_E n xs N d 162 [.ref 16, .int y1, .int y4] p2.2)).bind fun p3 =>
      (if (p3.1 - y4) ≤ (y3 - y2) then
      (lp_X11_isRest n xs N d f 10 [some (.ref 16), some (.int y1), some (.int y2), some (.int y3), some (.int (y4 + (1 : Int32)))] [] p3.2)
      else
      some (some (.int (0 : Int32)), p3.2)))))) := by exact rfl
set_option maxRecDepth 40000 in
set_option maxHeartbeats 4000000 in
theorem u_X11_odds (n : Nat) (xs : Nat → Int32) (N d : Nat) (M : mmM) (x1 : Int32) (x2 : Int32) (x3 : Int32) : mm_E n xs N (d + 1) 164 [.ref 16, .int x1, .int x2, .int x3] M =
  (if (mm_I M 16 16) = 0 then
  some (some (.int (-1 : Int32)), M)
  else
  ((mm_aI (mm_E n xs N d 176 [.int (0 : Int32), .int x1, .int (8 : Int32)] M)).bind fun p1 =>
    (if p1.1 = 0 then
    some (some (.int (-1 : Int32)), p1.2)
    else
    ((mm_aI (mm_E n xs N d 176 [.int (0 : Int32), .int x2, .int (100 : Int32)] p1.2)).bind fun p2 =>
      (if p2.1 = 0 then
      some (some (.int (-1 : Int32)), p2.2)
      else
      ((mm_aI (mm_E n xs N d 177 [.int x3] p2.2)).bind fun p3 =>
        (if p3.1 = 0 then
        some (some (.int (-1 : Int32)), p3.2)
        else
        ((mm_aI (mm_E n xs N d 121 [.ref 16] p3.2)).bind fun p4 =>
          ((mm_aJ (mm_E n xs N d 165 [.int x1, .long (1000000000 : Int64), .int (mm_I p3.2 35 0), .int p4.1, .int x2, .int x3] p4.2)).bind fun p5 =>
          some (some (.int p5.1.toInt32), p5.2)))))))))) := by exact rfl
set_option maxRecDepth 40000 in
set_option maxHeartbeats 4000000 in
theorem u_X11_partsAt (n : Nat) (xs : Nat → Int32) (N d : Nat) (M : mmM) (x1 : Int32) (x2 : Int64) (x3 : Int32) (x4 : Int32) (x5 : Int32) (x6 : Int32) : mm_E n xs N (d + 1) 165 [.int x1, .long x2, .int x3, .int x4, .int x5, .int x6] M =
  (if x1 ≤ 0 then
  (if x3 < x6 then
    some (some (.long (0 : Int64)), M)
    else
    some (some (.long x2), M))
  else
  (if (lg_cmp x2 (0 : Int64)) = 0 then
    (if x3 < x6 then
      some (some (.long (0 : Int64)), M)
      else
      some (some (.long x2), M))
    else
    (if (100 : Int64) = 0 then none else
      (if (2 : Int32) = 0 then none else
      ((mm_aI (mm_E n xs N d 122 [.int (x3 / (2 : Int32)), .int x4] M)).bind fun p1 =>
      ((mm_aJ (mm_E n xs N d 165 [.int (x1 - (1 : Int32)), .long ((x2 * x5.toInt64) / (100 : Int64)), .int p1.1, .int x4, .int x5, .int x6] p1.2)).bind fun p2 =>
      ((mm_aI (mm_E n xs N d 122 [.int x3, .int x4] p2.2)).bind fun p3 =>
      ((mm_aJ (mm_E n xs N d 165 [.int (x1 - (1 : Int32)), .long (x2 - ((x2 * x5.toInt64) / (100 : Int64))), .int p3.1, .int x4, .int x5, .int x6] p3.2)).bind fun p4 =>
      some (some (.long (p2.1 + p4.1)), p4.2))))))))) := by exact rfl
noncomputable def lp_X11_shares (n : Nat) (xs : Nat → Int32) (N d f t : Nat) : mmK := mm_lp (mm_Y n xs) (mm_E n xs N d) cd_X11_shares.1 cd_X11_shares.2.1 f t
set_option maxRecDepth 40000 in
set_option maxHeartbeats 4000000 in
theorem u_X11_shares (n : Nat) (xs : Nat → Int32) (N d : Nat) (M : mmM) (x1 : Int32) (x2 : Int32) : mm_E n xs N (d + 1) 166 [.ref 16, .int x1, .int x2] M =
  ((mm_aI (mm_E n xs N d 108 [.ref 16, .int x1] M)).bind fun p1 =>
  (if p1.1 = 0 then
  some (some (.int (-1 : Int32)), p1.2)
  else
  ((mm_aI (mm_E n xs N d 176 [.int (0 : Int32), .int x2, .int (999 : Int32)] p1.2)).bind fun p2 =>
    (if p2.1 = 0 then
    some (some (.int (-1 : Int32)), p2.2)
    else
    (lp_X11_shares n xs N d N 26 [some (.ref 16), some (.int x1), some (.int x2), some (.int (0 : Int32)), some (.int (0 : Int32))] [] p2.2))))) := by exact rfl
set_option maxRecDepth 40000 in
set_option maxHeartbeats 4000000 in
theorem lu_X11_shares_26 (n : Nat) (xs : Nat → Int32) (N d f : Nat) (M : mmM) (y1 : Int32) (y2 : Int32) (y3 : Int32) (y4 : Int32) : lp_X11_shares n xs N d (f + 1) 26 [some (.ref 16), some (.int y1), some (.int y2), some (.int y3), some (.int y4)] [] M =
  ((mm_aI (mm_E n xs N d 86 [.ref 32, .int (1 : Int32)] M)).bind fun p3 =>
  (if p3.1 ≤ y4 then
  (if y3 ≤ 0 then
    some (some (.int (0 : Int32)), p3.2)
    else
    ((mm_aI (mm_E n xs N d 5 [.ref 35, .int y1] p3.2)).bind fun p4 =>
      (if y3 = 0 then none else
      some (some (.int ((y2 * p4.1) / y3)), p4.2))))
  else
  ((mm_aI (mm_E n xs N d 5 [.ref 35, .int y4] p3.2)).bind fun p5 =>
    (lp_X11_shares n xs N d f 26 [some (.ref 16), some (.int y1), some (.int y2), some (.int (y3 + p5.1)), some (.int (y4 + (1 : Int32)))] [] p5.2)))) := by exact rfl
set_option maxRecDepth 40000 in
set_option maxHeartbeats 4000000 in
theorem u_X11_most (n : Nat) (xs : Nat → Int32) (N d : Nat) (M : mmM) (x1 : Int32) : mm_E n xs N (d + 1) 167 [.ref 16, .int x1] M =
  (if (mm_I M 16 16) = 0 then
  some (some (.int (-1 : Int32)), M)
  else
  (if x1 = 0 then
    ((mm_aI (mm_E n xs N d 168 [.ref 16, .int (0 : Int32)] M)).bind fun p1 =>
      some (some (.int p1.1), p1.2))
    else if x1 = 1 then
    ((mm_aI (mm_E n xs N d 168 [.ref 16, .int (1 : Int32)] M)).bind fun p2 =>
      some (some (.int p2.1), p2.2))
    else if x1 = 2 then
    ((mm_aI (mm_E n xs N d 168 [.ref 16, .int (2 : Int32)] M)).bind fun p3 =>
      some (some (.int p3.1), p3.2))
    else if x1 = 3 then
    ((mm_aI (mm_E n xs N d 169 [.ref 16] M)).bind fun p4 =>
      some (some (.int p4.1), p4.2))
    else if x1 = 4 then
    ((mm_aI (mm_E n xs N d 170 [.ref 16] M)).bind fun p5 =>
      some (some (.int p5.1), p5.2))
    else if x1 = 5 then
    some (some (.int (mm_I M 35 2)), M)
    else if x1 = 6 then
    ((mm_aI (mm_E n xs N d 115 [.ref 16] M)).bind fun p6 =>
      some (some (.int p6.1), p6.2))
    else if x1 = 7 then
    ((mm_aI (mm_E n xs N d 112 [.ref 16, .int (0 : Int32)] M)).bind fun p7 =>
      some (some (.int p7.1), p7.2))
    else if x1 = 8 then
    ((mm_aI (mm_E n xs N d 171 [.ref 16] M)).bind fun p8 =>
      some (some (.int p8.1), p8.2))
    else if x1 = 9 then
    ((mm_aI (mm_E n xs N d 112 [.ref 16, .int (1 : Int32)] M)).bind fun p9 =>
      some (some (.int p9.1), p9.2))
    else some (some (.int (-1 : Int32)), M))) := by exact rfl
noncomputable def lp_X11_firstMinisterByMost (n : Nat) (xs : Nat → Int32) (N d f t : Nat) : mmK := mm_lp (mm_Y n xs) (mm_E n xs N d) cd_X11_firstMinisterByMost.1 cd_X11_firstMinisterByMost.2.1 f t
set_option maxRecDepth 40000 in
set_option maxHeartbeats 4000000 in
theorem u_X11_firstMinisterByMost (n : Nat) (xs : Nat → Int32) (N d : Nat) (M : mmM) (x1 : Int32) : mm_E n xs N (d + 1) 168 [.ref 16, .int x1] M =
  (lp_X11_firstMinisterByMost n xs N d N 4 [some (.ref 16), some (.int x1), some (.int (0 : Int32)), some (.int (1 : Int32))] [] M) := by exact rfl
set_option maxRecDepth 40000 in
set_option maxHeartbeats 4000000 in
theorem lu_X11_firstMinisterByMost_4 (n : Nat) (xs : Nat → Int32) (N d f : Nat) (M : mmM) (y1 : Int32) (y2 : Int32) (y3 : Int32) : lp_X11_firstMinisterByMost n xs N d (f + 1) 4 [some (.ref 16), some (.int y1), some (.int y2), some (.int y3)] [] M =
  ((mm_aI (mm_E n xs N d 86 [.ref 32, .int (2 : Int32)] M)).bind fun p1 =>
  (if p1.1 ≤ y3 then
  some (some (.int y2), p1.2)
  else
  ((mm_aI (mm_E n xs N d 94 [.ref 32, .int (2 : Int32), .int y3, .int y1] p1.2)).bind fun p2 =>
    ((mm_aI (mm_E n xs N d 94 [.ref 32, .int (2 : Int32), .int y2, .int y1] p2.2)).bind fun p3 =>
    (if p2.1 ≤ p3.1 then
    (lp_X11_firstMinisterByMost n xs N d f 4 [some (.ref 16), some (.int y1), some (.int y2), some (.int (y3 + (1 : Int32)))] [] p3.2)
    else
    (lp_X11_firstMinisterByMost n xs N d f 4 [some (.ref 16), some (.int y1), some (.int y3), some (.int (y3 + (1 : Int32)))] [] p3.2)))))) := by exact rfl
noncomputable def lp_X11_strongestCook (n : Nat) (xs : Nat → Int32) (N d f t : Nat) : mmK := mm_lp (mm_Y n xs) (mm_E n xs N d) cd_X11_strongestCook.1 cd_X11_strongestCook.2.1 f t
set_option maxRecDepth 40000 in
set_option maxHeartbeats 4000000 in
theorem u_X11_strongestCook (n : Nat) (xs : Nat → Int32) (N d : Nat) (M : mmM)  : mm_E n xs N (d + 1) 169 [.ref 16] M =
  (lp_X11_strongestCook n xs N d N 4 [some (.ref 16), some (.int (0 : Int32)), some (.int (1 : Int32))] [] M) := by exact rfl
set_option maxRecDepth 40000 in
set_option maxHeartbeats 4000000 in
theorem lu_X11_strongestCook_4 (n : Nat) (xs : Nat → Int32) (N d f : Nat) (M : mmM) (y1 : Int32) (y2 : Int32) : lp_X11_strongestCook n xs N d (f + 1) 4 [some (.ref 16), some (.int y1), some (.int y2)] [] M =
  ((mm_aI (mm_E n xs N d 86 [.ref 32, .int (1 : Int32)] M)).bind fun p1 =>
  (if p1.1 ≤ y2 then
  some (some (.int y1), p1.2)
  else
  ((mm_aI (mm_E n xs N d 5 [.ref 35, .int y2] p1.2)).bind fun p2 =>
    ((mm_aI (mm_E n xs N d 5 [.ref 35, .int y1] p2.2)).bind fun p3 =>
    (if p2.1 ≤ p3.1 then
    (lp_X11_strongestCook n xs N d f 4 [some (.ref 16), some (.int y1), some (.int (y2 + (1 : Int32)))] [] p3.2)
    else
    (lp_X11_strongestCook n xs N d f 4 [some (.ref 16), some (.int y2), some (.int (y2 + (1 : Int32)))] [] p3.2)))))) := by exact rfl
noncomputable def lp_X11_freshestCook (n : Nat) (xs : Nat → Int32) (N d f t : Nat) : mmK := mm_lp (mm_Y n xs) (mm_E n xs N d) cd_X11_freshestCook.1 cd_X11_freshestCook.2.1 f t
set_option maxRecDepth 40000 in
set_option maxHeartbeats 4000000 in
theorem u_X11_freshestCook (n : Nat) (xs : Nat → Int32) (N d : Nat) (M : mmM)  : mm_E n xs N (d + 1) 170 [.ref 16] M =
  (lp_X11_freshestCook n xs N d N 4 [some (.ref 16), some (.int (0 : Int32)), some (.int (1 : Int32))] [] M) := by exact rfl
set_option maxRecDepth 40000 in
set_option maxHeartbeats 4000000 in
theorem lu_X11_freshestCook_4 (n : Nat) (xs : Nat → Int32) (N d f : Nat) (M : mmM) (y1 : Int32) (y2 : Int32) : lp_X11_freshestCook n xs N d (f + 1) 4 [some (.ref 16), some (.int y1), some (.int y2)] [] M =
  ((mm_aI (mm_E n xs N d 86 [.ref 32, .int (1 : Int32)] M)).bind fun p1 =>
  (if p1.1 ≤ y2 then
  some (some (.int y1), p1.2)
  else
  ((mm_aI (mm_E n xs N d 113 [.ref 16, .int y2] p1.2)).bind fun p2 =>
    ((mm_aI (mm_E n xs N d 113 [.ref 16, .int y1] p2.2)).bind fun p3 =>
    (if p2.1 ≤ p3.1 then
    (lp_X11_freshestCook n xs N d f 4 [some (.ref 16), some (.int y1), some (.int (y2 + (1 : Int32)))] [] p3.2)
    else
    (lp_X11_freshestCook n xs N d f 4 [some (.ref 16), some (.int y2), some (.int (y2 + (1 : Int32)))] [] p3.2)))))) := by exact rfl
noncomputable def lp_X11_doorsToFlat (n : Nat) (xs : Nat → Int32) (N d f t : Nat) : mmK := mm_lp (mm_Y n xs) (mm_E n xs N d) cd_X11_doorsToFlat.1 cd_X11_doorsToFlat.2.1 f t
set_option maxRecDepth 40000 in
set_option maxHeartbeats 4000000 in
theorem u_X11_doorsToFlat (n : Nat) (xs : Nat → Int32) (N d : Nat) (M : mmM)  : mm_E n xs N (d + 1) 171 [.ref 16] M =
  (lp_X11_doorsToFlat n xs N d N 10 [none, some (.int (0 : Int32)), some (.int (mm_I M 35 0))] [] M) := by exact rfl
set_option maxRecDepth 40000 in
set_option maxHeartbeats 4000000 in
theorem lu_X11_doorsToFlat_10 (n : Nat) (xs : Nat → Int32) (N d f : Nat) (M : mmM) (y1 : Int32) (y2 : Int32) : lp_X11_doorsToFlat n xs N d (f + 1) 10 [none, some (.int y1), some (.int y2)] [] M =
  (if y2 ≤ 0 then
  some (some (.int y1), M)
  else
  (if (2 : Int32) = 0 then none else
    (lp_X11_doorsToFlat n xs N d f 10 [none, some (.int (y1 + (1 : Int32))), some (.int (y2 / (2 : Int32)))] [] M))) := by exact rfl
set_option maxRecDepth 40000 in
set_option maxHeartbeats 4000000 in
theorem u_X11_ahead (n : Nat) (xs : Nat → Int32) (N d : Nat) (M : mmM) (x1 : Int32) : mm_E n xs N (d + 1) 172 [.ref 16, .int x1] M =
  (if (mm_I M 16 16) = 0 then
  some (some (.int (-1 : Int32)), M)
  else
  ((mm_aI (mm_E n xs N d 176 [.int (1 : Int32), .int x1, .int (9999 : Int32)] M)).bind fun p1 =>
    (if p1.1 = 0 then
    some (some (.int (-1 : Int32)), p1.2)
    else
    ((mm_aI (mm_E n xs N d 112 [.ref 16, .int (1 : Int32)] p1.2)).bind fun p2 =>
      (if 0 < (x1 - (mm_I p1.2 35 6)) then
      (if p2.1 ≤ 0 then
        (if (999 : Int32) < (1000 : Int32) then
          some (some (.int (-1 : Int32)), p2.2)
          else
          some (some (.int (1000 : Int32)), p2.2))
        else
        (if p2.1 = 0 then none else
          (if (999 : Int32) < ((((x1 - (mm_I p1.2 35 6)) + p2.1) - (1 : Int32)) / p2.1) then
          some (some (.int (-1 : Int32)), p2.2)
          else
          some (some (.int ((((x1 - (mm_I p1.2 35 6)) + p2.1) - (1 : Int32)) / p2.1)), p2.2))))
      else
      some (some (.int (0 : Int32)), p2.2)))))) := by exact rfl
set_option maxRecDepth 40000 in
set_option maxHeartbeats 4000000 in
theorem u_X11_image (n : Nat) (xs : Nat → Int32) (N d : Nat) (M : mmM)  : mm_E n xs N (d + 1) 173 [.ref 16] M =
  (if (mm_I M 16 16) = 0 then
  some (some (.int (-1 : Int32)), M)
  else
  ((mm_aV (mm_E n xs N d 3 [.ref 42, .ref 35] M)).bind fun p1 =>
    ((mm_aV (mm_E n xs N d 47 [.ref 45, .ref 40] p1)).bind fun p2 =>
    some (some (.int (mm_I p2 35 8)), (mm_wI p2 16 17 (1 : Int32)))))) := by exact rfl
set_option maxRecDepth 40000 in
set_option maxHeartbeats 4000000 in
theorem u_X11_back (n : Nat) (xs : Nat → Int32) (N d : Nat) (M : mmM)  : mm_E n xs N (d + 1) 174 [.ref 16] M =
  (if (mm_I M 16 17) = 0 then
  some (some (.int (-1 : Int32)), M)
  else
  ((mm_aV (mm_E n xs N d 3 [.ref 35, .ref 42] M)).bind fun p1 =>
    ((mm_aV (mm_E n xs N d 47 [.ref 40, .ref 45] p1)).bind fun p2 =>
    ((mm_aV (mm_E n xs N d 51 [.ref 38] p2)).bind fun p3 =>
    some (some (.int (mm_I p3 35 8)), p3))))) := by exact rfl
set_option maxRecDepth 40000 in
set_option maxHeartbeats 4000000 in
theorem u_X11_count (n : Nat) (xs : Nat → Int32) (N d : Nat) (M : mmM) (x1 : Int32) : mm_E n xs N (d + 1) 175 [.ref 16, .int x1] M =
  (if x1 = 0 then
  ((mm_aI (mm_E n xs N d 86 [.ref 32, .int (2 : Int32)] M)).bind fun p1 =>
    some (some (.int p1.1), p1.2))
  else if x1 = 1 then
  ((mm_aI (mm_E n xs N d 86 [.ref 32, .int (1 : Int32)] M)).bind fun p2 =>
    some (some (.int p2.1), p2.2))
  else if x1 = 2 then
  ((mm_aI (mm_E n xs N d 34 [.ref 25] M)).bind fun p3 =>
    some (some (.int p3.1), p3.2))
  else if x1 = 3 then
  ((mm_aI (mm_E n xs N d 70 [.ref 17] M)).bind fun p4 =>
    some (some (.int p4.1), p4.2))
  else if x1 = 4 then
  ((mm_aI (mm_E n xs N d 36 [.ref 25] M)).bind fun p5 =>
    some (some (.int p5.1), p5.2))
  else if x1 = 5 then
  some (some (.int (mm_I M 35 8)), M)
  else if x1 = 6 then
  some (some (.int (mm_I M 35 0)), M)
  else if x1 = 7 then
  some (some (.int (mm_I M 35 1)), M)
  else if x1 = 8 then
  some (some (.int (mm_I M 35 3)), M)
  else if x1 = 9 then
  some (some (.int (mm_I M 35 6)), M)
  else if x1 = 10 then
  some (some (.int (mm_I M 35 7)), M)
  else if x1 = 11 then
  some (some (.int (mm_I M 16 18)), M)
  else if x1 = 12 then
  ((mm_aI (mm_E n xs N d 63 [.ref 47] M)).bind fun p6 =>
    some (some (.int p6.1), p6.2))
  else if x1 = 13 then
  ((mm_aI (mm_E n xs N d 141 [.ref 16] M)).bind fun p7 =>
    some (some (.int p7.1), p7.2))
  else if x1 = 14 then
  ((mm_aI (mm_E n xs N d 50 [.ref 38] M)).bind fun p8 =>
    some (some (.int p8.1), p8.2))
  else some (some (.int (-1000000 : Int32)), M)) := by exact rfl
set_option maxRecDepth 40000 in
set_option maxHeartbeats 4000000 in
theorem u_X11_isWithin (n : Nat) (xs : Nat → Int32) (N d : Nat) (M : mmM) (x1 : Int32) (x2 : Int32) (x3 : Int32) : mm_E n xs N (d + 1) 176 [.int x1, .int x2, .int x3] M =
  (if x2 < x1 then
  some (some (.int (0 : Int32)), M)
  else
  (if x3 < x2 then
    some (some (.int (0 : Int32)), M)
    else
    some (some (.int (1 : Int32)), M))) := by exact rfl
set_option maxRecDepth 40000 in
set_option maxHeartbeats 4000000 in
theorem u_X11_isStand (n : Nat) (xs : Nat → Int32) (N d : Nat) (M : mmM) (x1 : Int32) : mm_E n xs N (d + 1) 177 [.int x1] M =
  ((mm_aI (mm_E n xs N d 176 [.int (0 : Int32), .int x1, .int (99 : Int32)] M)).bind fun p1 =>
  (if p1.1 = 0 then some (some (.int 0), p1.2) else if p1.1 = 1 then some (some (.int 1), p1.2) else none)) := by exact rfl
set_option maxRecDepth 40000 in
set_option maxHeartbeats 4000000 in
theorem u_X11_within (n : Nat) (xs : Nat → Int32) (N d : Nat) (M : mmM) (x1 : Int32) (x2 : Int32) (x3 : Int32) : mm_E n xs N (d + 1) 178 [.int x1, .int x2, .int x3] M =
  ((mm_aI (mm_E n xs N d 304 [.int x3, .int x2] M)).bind fun p1 =>
  ((mm_aI (mm_E n xs N d 302 [.int x1, .int p1.1] p1.2)).bind fun p2 =>
  some (some (.int p2.1), p2.2))) := by exact rfl
set_option maxRecDepth 40000 in
set_option maxHeartbeats 4000000 in
theorem u_X12_in (n : Nat) (xs : Nat → Int32) (N d : Nat) (M : mmM) (x1 : Int32) (x2 : Int32) (x3 : Int32) : mm_E n xs N (d + 1) 179 [.int x1, .int x2, .int x3] M =
  (if x1 < x2 then
  some (some (.int (0 : Int32)), M)
  else
  (if x3 < x1 then
    some (some (.int (0 : Int32)), M)
    else
    some (some (.int (1 : Int32)), M))) := by exact rfl
