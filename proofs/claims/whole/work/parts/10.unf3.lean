set_option maxRecDepth 40000 in
set_option maxHeartbeats 4000000 in
theorem u_X12_has (n : Nat) (xs : Nat → Int32) (N d : Nat) (M : mmM) (x1 : Int32) (x2 : Int32) : mm_E n xs N (d + 1) 180 [.int x1, .int x2] M =
  (if ((x1 >>> (x2 &&& 31)) &&& (1 : Int32)) = (1 : Int32) then
  some (some (.int (1 : Int32)), M)
  else
  some (some (.int (0 : Int32)), M)) := by exact rfl
set_option maxRecDepth 40000 in
set_option maxHeartbeats 4000000 in
theorem u_X12_thrown (n : Nat) (xs : Nat → Int32) (N d : Nat) (M : mmM)  : mm_E n xs N (d + 1) 182 [.ref 60] M =
  some (some (.int (mm_I M 60 0)), M) := by exact rfl
set_option maxRecDepth 40000 in
set_option maxHeartbeats 4000000 in
theorem u_X12_byteOf (n : Nat) (xs : Nat → Int32) (N d : Nat) (M : mmM) (x1 : Int32) (x2 : Int32) (x3 : Int32) (x4 : Int32) (x5 : Int32) (x6 : Int32) : mm_E n xs N (d + 1) 183 [.int x1, .int x2, .int x3, .int x4, .int x5, .int x6] M =
  (if (4 : Int32) ≤ x6 then
  (if (8 : Int32) ≤ x6 then
    (if (12 : Int32) ≤ x6 then
      (if (16 : Int32) ≤ x6 then
        (if (4 : Int32) = 0 then none else
          some (some (.int ((x5 >>> (((24 : Int32) - ((8 : Int32) * (x6 - x6 / (4 : Int32) * (4 : Int32)))) &&& 31)) &&& (255 : Int32))), M))
        else
        (if (4 : Int32) = 0 then none else
          some (some (.int ((x4 >>> (((24 : Int32) - ((8 : Int32) * (x6 - x6 / (4 : Int32) * (4 : Int32)))) &&& 31)) &&& (255 : Int32))), M)))
      else
      (if (4 : Int32) = 0 then none else
        some (some (.int ((x3 >>> (((24 : Int32) - ((8 : Int32) * (x6 - x6 / (4 : Int32) * (4 : Int32)))) &&& 31)) &&& (255 : Int32))), M)))
    else
    (if (4 : Int32) = 0 then none else
      some (some (.int ((x2 >>> (((24 : Int32) - ((8 : Int32) * (x6 - x6 / (4 : Int32) * (4 : Int32)))) &&& 31)) &&& (255 : Int32))), M)))
  else
  (if (4 : Int32) = 0 then none else
    some (some (.int ((x1 >>> (((24 : Int32) - ((8 : Int32) * (x6 - x6 / (4 : Int32) * (4 : Int32)))) &&& 31)) &&& (255 : Int32))), M))) := by exact rfl
noncomputable def lp_X12_feed (n : Nat) (xs : Nat → Int32) (N d f t : Nat) : mmK := mm_lp (mm_Y n xs) (mm_E n xs N d) cd_X12_feed.1 cd_X12_feed.2.1 f t
set_option maxRecDepth 40000 in
set_option maxHeartbeats 4000000 in
theorem u_X12_feed (n : Nat) (xs : Nat → Int32) (N d : Nat) (M : mmM) (x1 : Int32) (x2 : Int32) (x3 : Int32) (x4 : Int32) (x5 : Int32) : mm_E n xs N (d + 1) 184 [.ref 60, .int x1, .int x2, .int x3, .int x4, .int x5] M =
  (lp_X12_feed n xs N d N 6 [some (.ref 60), some (.int x1), some (.int x2), some (.int x3), some (.int x4), some (.int x5), some (.int (0 : Int32)), some (.int (0 : Int32)), none] [] M) := by exact rfl
set_option maxRecDepth 40000 in
set_option maxHeartbeats 4000000 in
theorem lu_X12_feed_6 (n : Nat) (xs : Nat → Int32) (N d f : Nat) (M : mmM) (y1 : Int32) (y2 : Int32) (y3 : Int32) (y4 : Int32) (y5 : Int32) (y6 : Int32) (y7 : Int32) : lp_X12_feed n xs N d (f + 1) 6 [some (.ref 60), some (.int y1), some (.int y2), some (.int y3), some (.int y4), some (.int y5), some (.int y6), some (.int y7), none] [] M =
  (if (20 : Int32) ≤ y7 then
  (if ((mm_I M 60 2) + y6) ≤ (240 : Int32) then
    (lp_X12_feed n xs N d f 62 [some (.ref 60), some (.int y1), some (.int y2), some (.int y3), some (.int y4), some (.int y5), none, some (.int (0 : Int32)), none] [] M)
    else
    some (some (.int (-1 : Int32)), M))
  else
  ((mm_aI (mm_E n xs N d 183 [.int y1, .int y2, .int y3, .int y4, .int y5, .int y7] M)).bind fun p1 =>
    (if p1.1 = 0 then
    (lp_X12_feed n xs N d f 6 [some (.ref 60), some (.int y1), some (.int y2), some (.int y3), some (.int y4), some (.int y5), some (.int (y6 + (0 : Int32))), some (.int (y7 + (1 : Int32))), none] [] p1.2)
    else
    (lp_X12_feed n xs N d f 6 [some (.ref 60), some (.int y1), some (.int y2), some (.int y3), some (.int y4), some (.int y5), some (.int (y6 + (1 : Int32))), some (.int (y7 + (1 : Int32))), none] [] p1.2)))) := by exact rfl
set_option maxRecDepth 40000 in
set_option maxHeartbeats 4000000 in
theorem lu_X12_feed_62 (n : Nat) (xs : Nat → Int32) (N d f : Nat) (M : mmM) (y1 : Int32) (y2 : Int32) (y3 : Int32) (y4 : Int32) (y5 : Int32) (y7 : Int32) : lp_X12_feed n xs N d (f + 1) 62 [some (.ref 60), some (.int y1), some (.int y2), some (.int y3), some (.int y4), some (.int y5), none, some (.int y7), none] [] M =
  (if (20 : Int32) ≤ y7 then
  some (some (.int (mm_I M 60 2)), M)
  else
  ((mm_aI (mm_E n xs N d 183 [.int y1, .int y2, .int y3, .int y4, .int y5, .int y7] M)).bind fun p2 =>
    (if p2.1 = 0 then
    (lp_X12_feed n xs N d f 62 [some (.ref 60), some (.int y1), some (.int y2), some (.int y3), some (.int y4), some (.int y5), none, some (.int (y7 + (1 : Int32))), none] [] p2.2)
    else
    (cond (mm_inb (mm_I p2.2 60 2) 240 && Nat.ble 16 61)
      (lp_X12_feed n xs N d f 62 [some (.ref 60), some (.int y1), some (.int y2), some (.int y3), some (.int y4), some (.int y5), none, some (.int (y7 + (1 : Int32))), none] [] (mm_wI (mm_wI p2.2 61 ((mm_I p2.2 60 2).toNatClampNeg) p2.1) 60 2 ((mm_I p2.2 60 2) + (1 : Int32)))) none)))) := by exact rfl
set_option maxRecDepth 40000 in
set_option maxHeartbeats 4000000 in
theorem u_X12_end (n : Nat) (xs : Nat → Int32) (N d : Nat) (M : mmM) (x1 : Int32) : mm_E n xs N (d + 1) 185 [.ref 60, .int x1] M =
  (if x1 < 0 then
  some (some (.int (0 : Int32)), M)
  else
  (if x1 ≤ (mm_I M 60 2) then
    some (some (.int (1 : Int32)), (mm_wI M 60 2 x1))
    else
    some (some (.int (0 : Int32)), M))) := by exact rfl
set_option maxRecDepth 40000 in
set_option maxHeartbeats 4000000 in
theorem u_X12_here (n : Nat) (xs : Nat → Int32) (N d : Nat) (M : mmM)  : mm_E n xs N (d + 1) 186 [.ref 60] M =
  (if (mm_I M 60 2) ≤ (mm_I M 60 3) then
  some (some (.int (-1 : Int32)), M)
  else
  (cond (mm_inb (mm_I M 60 3) 240)
    (some (some (.int (mm_I M 61 ((mm_I M 60 3).toNatClampNeg))), M)) none)) := by exact rfl
noncomputable def lp_X12_look (n : Nat) (xs : Nat → Int32) (N d f t : Nat) : mmK := mm_lp (mm_Y n xs) (mm_E n xs N d) cd_X12_look.1 cd_X12_look.2.1 f t
set_option maxRecDepth 40000 in
set_option maxHeartbeats 4000000 in
theorem u_X12_look (n : Nat) (xs : Nat → Int32) (N d : Nat) (M : mmM)  : mm_E n xs N (d + 1) 187 [.ref 60] M =
  ((mm_aI (mm_E n xs N d 186 [.ref 60] M)).bind fun p1 =>
  (if p1.1 = (32 : Int32) then
  (lp_X12_look n xs N d N 0 [some (.ref 60)] [] (mm_wI p1.2 60 3 ((mm_I p1.2 60 3) + (1 : Int32))))
  else
  ((mm_aI (mm_E n xs N d 186 [.ref 60] p1.2)).bind fun p2 =>
    some (some (.int p2.1), p2.2)))) := by exact rfl
set_option maxRecDepth 40000 in
set_option maxHeartbeats 4000000 in
theorem lu_X12_look_0 (n : Nat) (xs : Nat → Int32) (N d f : Nat) (M : mmM)  : lp_X12_look n xs N d (f + 1) 0 [some (.ref 60)] [] M =
  ((mm_aI (mm_E n xs N d 186 [.ref 60] M)).bind fun p3 =>
  (if p3.1 = (32 : Int32) then
  (lp_X12_look n xs N d f 0 [some (.ref 60)] [] (mm_wI p3.2 60 3 ((mm_I p3.2 60 3) + (1 : Int32))))
  else
  ((mm_aI (mm_E n xs N d 186 [.ref 60] p3.2)).bind fun p4 =>
    some (some (.int p4.1), p4.2)))) := by exact rfl
set_option maxRecDepth 40000 in
set_option maxHeartbeats 4000000 in
theorem u_X12_bad (n : Nat) (xs : Nat → Int32) (N d : Nat) (M : mmM)  : mm_E n xs N (d + 1) 188 [.ref 60] M =
  (if (mm_I M 60 4) = (-1 : Int32) then
  some (none, (mm_wI M 60 4 (mm_I M 60 3)))
  else
  some (none, (mm_wI M 60 4 (mm_I M 60 4)))) := by exact rfl
set_option maxRecDepth 40000 in
set_option maxHeartbeats 4000000 in
theorem u_X12_isDigit (n : Nat) (xs : Nat → Int32) (N d : Nat) (M : mmM) (x1 : Int32) : mm_E n xs N (d + 1) 189 [.int x1] M =
  (if x1 < (48 : Int32) then
  some (some (.int (0 : Int32)), M)
  else
  (if (57 : Int32) < x1 then
    some (some (.int (0 : Int32)), M)
    else
    some (some (.int (1 : Int32)), M))) := by exact rfl
set_option maxRecDepth 40000 in
set_option maxHeartbeats 4000000 in
theorem u_X12_put (n : Nat) (xs : Nat → Int32) (N d : Nat) (M : mmM) (x1 : Int32) (x2 : Int32) : mm_E n xs N (d + 1) 190 [.ref 60, .int x1, .int x2] M =
  (cond (mm_inb (mm_I M 60 14) 5)
  (cond (mm_inb (((520 : Int32) * (mm_I M 60 14)) + (mm_I M 64 ((mm_I M 60 14).toNatClampNeg))) 2600 && Nat.ble 16 62)
    (cond (mm_inb (mm_I M 60 14) 5)
      (cond (mm_inb (((520 : Int32) * (mm_I M 60 14)) + (mm_I M 64 ((mm_I M 60 14).toNatClampNeg))) 2600 && Nat.ble 16 63)
        (cond (mm_inb (mm_I M 60 14) 5)
          (cond (mm_inb (mm_I M 60 14) 5 && Nat.ble 16 64)
            (some (none, (mm_wI (mm_wI (mm_wI M 62 ((((520 : Int32) * (mm_I M 60 14)) + (mm_I M 64 ((mm_I M 60 14).toNatClampNeg))).toNatClampNeg) x1) 63 ((((520 : Int32) * (mm_I M 60 14)) + (mm_I M 64 ((mm_I M 60 14).toNatClampNeg))).toNatClampNeg) x2) 64 ((mm_I M 60 14).toNatClampNeg) ((mm_I M 64 ((mm_I M 60 14).toNatClampNeg)) + (1 : Int32))))) none) none) none) none) none) none) := by exact rfl
set_option maxRecDepth 40000 in
set_option maxHeartbeats 4000000 in
theorem u_X12_letterOf (n : Nat) (xs : Nat → Int32) (N d : Nat) (M : mmM) (x1 : Int32) : mm_E n xs N (d + 1) 191 [.int x1] M =
  (if x1 = (119 : Int32) then
  some (some (.int (0 : Int32)), M)
  else
  (if x1 = (115 : Int32) then
    some (some (.int (1 : Int32)), M)
    else
    (if x1 = (110 : Int32) then
      some (some (.int (2 : Int32)), M)
      else
      (if x1 = (121 : Int32) then
        some (some (.int (3 : Int32)), M)
        else
        (if x1 = (97 : Int32) then
          some (some (.int (4 : Int32)), M)
          else
          (if x1 = (99 : Int32) then
            some (some (.int (5 : Int32)), M)
            else
            some (some (.int (-1 : Int32)), M))))))) := by exact rfl
set_option maxRecDepth 40000 in
set_option maxHeartbeats 4000000 in
theorem u_X12_opens (n : Nat) (xs : Nat → Int32) (N d : Nat) (M : mmM)  : mm_E n xs N (d + 1) 192 [.ref 60] M =
  (if (mm_I M 60 5) = (6 : Int32) then
  ((mm_aV (mm_E n xs N d 188 [.ref 60] M)).bind fun p1 =>
    some (none, (mm_wI (mm_wI p1 60 5 ((mm_I p1 60 5) + (1 : Int32))) 60 3 ((mm_I p1 60 3) + (1 : Int32)))))
  else
  some (none, (mm_wI (mm_wI M 60 5 ((mm_I M 60 5) + (1 : Int32))) 60 3 ((mm_I M 60 3) + (1 : Int32))))) := by exact rfl
set_option maxRecDepth 40000 in
set_option maxHeartbeats 4000000 in
theorem u_X12_closes (n : Nat) (xs : Nat → Int32) (N d : Nat) (M : mmM) (x1 : Int32) : mm_E n xs N (d + 1) 193 [.ref 60, .int x1] M =
  (if (mm_I M 60 4) = (-1 : Int32) then
  ((mm_aI (mm_E n xs N d 187 [.ref 60] M)).bind fun p1 =>
    (if p1.1 = x1 then
    some (none, (mm_wI (mm_wI p1.2 60 3 ((mm_I p1.2 60 3) + (1 : Int32))) 60 5 ((mm_I p1.2 60 5) - (1 : Int32))))
    else
    ((mm_aV (mm_E n xs N d 188 [.ref 60] p1.2)).bind fun p2 =>
      some (none, (mm_wI (mm_wI p2 60 3 ((mm_I p2 60 3) + (1 : Int32))) 60 5 ((mm_I p2 60 5) - (1 : Int32)))))))
  else
  some (none, (mm_wI (mm_wI M 60 3 ((mm_I M 60 3) + (1 : Int32))) 60 5 ((mm_I M 60 5) - (1 : Int32))))) := by exact rfl
noncomputable def lp_X12_plainNumber (n : Nat) (xs : Nat → Int32) (N d f t : Nat) : mmK := mm_lp (mm_Y n xs) (mm_E n xs N d) cd_X12_plainNumber.1 cd_X12_plainNumber.2.1 f t
set_option maxRecDepth 40000 in
set_option maxHeartbeats 4000000 in
theorem u_X12_plainNumber (n : Nat) (xs : Nat → Int32) (N d : Nat) (M : mmM)  : mm_E n xs N (d + 1) 194 [.ref 60] M =
  (lp_X12_plainNumber n xs N d N 4 [some (.ref 60), some (.int (0 : Int32)), some (.int (0 : Int32))] [] M) := by exact rfl
set_option maxRecDepth 40000 in
set_option maxHeartbeats 4000000 in
theorem lu_X12_plainNumber_4 (n : Nat) (xs : Nat → Int32) (N d f : Nat) (M : mmM) (y1 : Int32) (y2 : Int32) : lp_X12_plainNumber n xs N d (f + 1) 4 [some (.ref 60), some (.int y1), some (.int y2)] [] M =
  (if (4 : Int32) ≤ y2 then
  ((mm_aI (mm_E n xs N d 186 [.ref 60] M)).bind fun p1 =>
    ((mm_aI (mm_E n xs N d 189 [.int p1.1] p1.2)).bind fun p2 =>
    (if p2.1 = 0 then
    some (some (.int y1), p2.2)
    else
    ((mm_aV (mm_E n xs N d 188 [.ref 60] p2.2)).bind fun p3 =>
      some (some (.int y1), p3)))))
  else
  ((mm_aI (mm_E n xs N d 186 [.ref 60] M)).bind fun p4 =>
    ((mm_aI (mm_E n xs N d 189 [.int p4.1] p4.2)).bind fun p5 =>
    (if p5.1 = 0 then
    ((mm_aI (mm_E n xs N d 186 [.ref 60] p5.2)).bind fun p6 =>
      ((mm_aI (mm_E n xs N d 189 [.int p6.1] p6.2)).bind fun p7 =>
      (if p7.1 = 0 then
      some (some (.int y1), p7.2)
      else
      ((mm_aV (mm_E n xs N d 188 [.ref 60] p7.2)).bind fun p8 =>
        some (some (.int y1), p8)))))
    else
    ((mm_aI (mm_E n xs N d 186 [.ref 60] p5.2)).bind fun p9 =>
      (lp_X12_plainNumber n xs N d f 4 [some (.ref 60), some (.int ((((10 : Int32) * y1) + p9.1) - (48 : Int32))), some (.int (y2 + (1 : Int32)))] [] (mm_wI p9.2 60 3 ((mm_I p9.2 60 3) + (1 : Int32))))))))) := by exact rfl
set_option maxRecDepth 40000 in
set_option maxHeartbeats 4000000 in
theorem u_X12_atom (n : Nat) (xs : Nat → Int32) (N d : Nat) (M : mmM)  : mm_E n xs N (d + 1) 195 [.ref 60] M =
  ((mm_aI (mm_E n xs N d 187 [.ref 60] M)).bind fun p1 =>
  ((mm_aI (mm_E n xs N d 189 [.int p1.1] p1.2)).bind fun p2 =>
  (if p2.1 = 0 then
  ((mm_aI (mm_E n xs N d 191 [.int p1.1] p2.2)).bind fun p3 =>
    (if p3.1 = (-1 : Int32) then
    (if p1.1 = (91 : Int32) then
      ((mm_aV (mm_E n xs N d 192 [.ref 60] p3.2)).bind fun p4 =>
        (if (mm_I p4 60 4) = (-1 : Int32) then
        ((mm_aV (mm_E n xs N d 197 [.ref 60] p4)).bind fun p5 =>
          ((mm_aV (mm_E n xs N d 193 [.ref 60, .int (93 : Int32)] p5)).bind fun p6 =>
          some (none, p6)))
        else
        some (none, p4)))
      else
      ((mm_aV (mm_E n xs N d 188 [.ref 60] p3.2)).bind fun p7 =>
        some (none, p7)))
    else
    ((mm_aI (mm_E n xs N d 191 [.int p1.1] (mm_wI p3.2 60 3 ((mm_I p3.2 60 3) + (1 : Int32))))).bind fun p8 =>
      ((mm_aV (mm_E n xs N d 190 [.ref 60, .int (1 : Int32), .int p8.1] p8.2)).bind fun p9 =>
      some (none, p9)))))
  else
  ((mm_aI (mm_E n xs N d 194 [.ref 60] p2.2)).bind fun p10 =>
    ((mm_aV (mm_E n xs N d 190 [.ref 60, .int (0 : Int32), .int p10.1] p10.2)).bind fun p11 =>
    some (none, p11)))))) := by exact rfl
noncomputable def lp_X12_term (n : Nat) (xs : Nat → Int32) (N d f t : Nat) : mmK := mm_lp (mm_Y n xs) (mm_E n xs N d) cd_X12_term.1 cd_X12_term.2.1 f t
set_option maxRecDepth 40000 in
set_option maxHeartbeats 4000000 in
theorem u_X12_term (n : Nat) (xs : Nat → Int32) (N d : Nat) (M : mmM)  : mm_E n xs N (d + 1) 196 [.ref 60] M =
  ((mm_aV (mm_E n xs N d 195 [.ref 60] M)).bind fun p1 =>
  (if (mm_I p1 60 4) = (-1 : Int32) then
  ((mm_aI (mm_E n xs N d 187 [.ref 60] p1)).bind fun p2 =>
    (lp_X12_term n xs N d N 21 [some (.ref 60), some (.int p2.1)] [] p2.2))
  else
  (lp_X12_term n xs N d N 21 [some (.ref 60), some (.int (-1 : Int32))] [] p1))) := by exact rfl
set_option maxRecDepth 40000 in
set_option maxHeartbeats 4000000 in
theorem lu_X12_term_21 (n : Nat) (xs : Nat → Int32) (N d f : Nat) (M : mmM) (y1 : Int32) : lp_X12_term n xs N d (f + 1) 21 [some (.ref 60), some (.int y1)] [] M =
  (if y1 = (42 : Int32) then
  ((mm_aV (mm_E n xs N d 195 [.ref 60] (mm_wI M 60 3 ((mm_I M 60 3) + (1 : Int32))))).bind fun p3 =>
    (if y1 = (42 : Int32) then
    ((mm_aV (mm_E n xs N d 190 [.ref 60, .int (4 : Int32), .int (0 : Int32)] p3)).bind fun p4 =>
      (if (mm_I p4 60 4) = (-1 : Int32) then
      ((mm_aI (mm_E n xs N d 187 [.ref 60] p4)).bind fun p5 =>
        (lp_X12_term n xs N d f 21 [some (.ref 60), some (.int p5.1)] [] p5.2))
      else
      (lp_X12_term n xs N d f 21 [some (.ref 60), some (.int (-1 : Int32))] [] p4)))
    else
    ((mm_aV (mm_E n xs N d 190 [.ref 60, .int (5 : Int32), .int (0 : Int32)] p3)).bind fun p6 =>
      (if (mm_I p6 60 4) = (-1 : Int32) then
      ((mm_aI (mm_E n xs N d 187 [.ref 60] p6)).bind fun p7 =>
        (lp_X12_term n xs N d f 21 [some (.ref 60), some (.int p7.1)] [] p7.2))
      else
      (lp_X12_term n xs N d f 21 [some (.ref 60), some (.int (-1 : Int32))] [] p6)))))
  else
  (if y1 = (47 : Int32) then
    ((mm_aV (mm_E n xs N d 195 [.ref 60] (mm_wI M 60 3 ((mm_I M 60 3) + (1 : Int32))))).bind fun p8 =>
      (if y1 = (42 : Int32) then
      ((mm_aV (mm_E n xs N d 190 [.ref 60, .int (4 : Int32), .int (0 : Int32)] p8)).bind fun p9 =>
        (if (mm_I p9 60 4) = (-1 : Int32) then
        ((mm_aI (mm_E n xs N d 187 [.ref 60] p9)).bind fun p10 =>
          (lp_X12_term n xs N d f 21 [some (.ref 60), some (.int p10.1)] [] p10.2))
        else
        (lp_X12_term n xs N d f 21 [some (.ref 60), some (.int (-1 : Int32))] [] p9)))
      else
      ((mm_aV (mm_E n xs N d 190 [.ref 60, .int (5 : Int32), .int (0 : Int32)] p8)).bind fun p11 =>
        (if (mm_I p11 60 4) = (-1 : Int32) then
        ((mm_aI (mm_E n xs N d 187 [.ref 60] p11)).bind fun p12 =>
          (lp_X12_term n xs N d f 21 [some (.ref 60), some (.int p12.1)] [] p12.2))
        else
        (lp_X12_term n xs N d f 21 [some (.ref 60), some (.int (-1 : Int32))] [] p11)))))
    else
    some (none, M))) := by exact rfl
noncomputable def lp_X12_sum (n : Nat) (xs : Nat → Int32) (N d f t : Nat) : mmK := mm_lp (mm_Y n xs) (mm_E n xs N d) cd_X12_sum.1 cd_X12_sum.2.1 f t
set_option maxRecDepth 40000 in
set_option maxHeartbeats 4000000 in
theorem u_X12_sum (n : Nat) (xs : Nat → Int32) (N d : Nat) (M : mmM)  : mm_E n xs N (d + 1) 197 [.ref 60] M =
  ((mm_aV (mm_E n xs N d 196 [.ref 60] M)).bind fun p1 =>
  (if (mm_I p1 60 4) = (-1 : Int32) then
  ((mm_aI (mm_E n xs N d 187 [.ref 60] p1)).bind fun p2 =>
    (lp_X12_sum n xs N d N 21 [some (.ref 60), some (.int p2.1)] [] p2.2))
  else
  (lp_X12_sum n xs N d N 21 [some (.ref 60), some (.int (-1 : Int32))] [] p1))) := by exact rfl
set_option maxRecDepth 40000 in
set_option maxHeartbeats 4000000 in
theorem lu_X12_sum_21 (n : Nat) (xs : Nat → Int32) (N d f : Nat) (M : mmM) (y1 : Int32) : lp_X12_sum n xs N d (f + 1) 21 [some (.ref 60), some (.int y1)] [] M =
  (if y1 = (43 : Int32) then
  ((mm_aV (mm_E n xs N d 196 [.ref 60] (mm_wI M 60 3 ((mm_I M 60 3) + (1 : Int32))))).bind fun p3 =>
    (if y1 = (43 : Int32) then
    ((mm_aV (mm_E n xs N d 190 [.ref 60, .int (2 : Int32), .int (0 : Int32)] p3)).bind fun p4 =>
      (if (mm_I p4 60 4) = (-1 : Int32) then
      ((mm_aI (mm_E n xs N d 187 [.ref 60] p4)).bind fun p5 =>
        (lp_X12_sum n xs N d f 21 [some (.ref 60), some (.int p5.1)] [] p5.2))
      else
      (lp_X12_sum n xs N d f 21 [some (.ref 60), some (.int (-1 : Int32))] [] p4)))
    else
    ((mm_aV (mm_E n xs N d 190 [.ref 60, .int (3 : Int32), .int (0 : Int32)] p3)).bind fun p6 =>
      (if (mm_I p6 60 4) = (-1 : Int32) then
      ((mm_aI (mm_E n xs N d 187 [.ref 60] p6)).bind fun p7 =>
        (lp_X12_sum n xs N d f 21 [some (.ref 60), some (.int p7.1)] [] p7.2))
      else
      (lp_X12_sum n xs N d f 21 [some (.ref 60), some (.int (-1 : Int32))] [] p6)))))
  else
  (if y1 = (45 : Int32) then
    ((mm_aV (mm_E n xs N d 196 [.ref 60] (mm_wI M 60 3 ((mm_I M 60 3) + (1 : Int32))))).bind fun p8 =>
      (if y1 = (43 : Int32) then
      ((mm_aV (mm_E n xs N d 190 [.ref 60, .int (2 : Int32), .int (0 : Int32)] p8)).bind fun p9 =>
        (if (mm_I p9 60 4) = (-1 : Int32) then
        ((mm_aI (mm_E n xs N d 187 [.ref 60] p9)).bind fun p10 =>
          (lp_X12_sum n xs N d f 21 [some (.ref 60), some (.int p10.1)] [] p10.2))
        else
        (lp_X12_sum n xs N d f 21 [some (.ref 60), some (.int (-1 : Int32))] [] p9)))
      else
      ((mm_aV (mm_E n xs N d 190 [.ref 60, .int (3 : Int32), .int (0 : Int32)] p8)).bind fun p11 =>
        (if (mm_I p11 60 4) = (-1 : Int32) then
        ((mm_aI (mm_E n xs N d 187 [.ref 60] p11)).bind fun p12 =>
          (lp_X12_sum n xs N d f 21 [some (.ref 60), some (.int p12.1)] [] p12.2))
        else
        (lp_X12_sum n xs N d f 21 [some (.ref 60), some (.int (-1 : Int32))] [] p11)))))
    else
    some (none, M))) := by exact rfl
set_option maxRecDepth 40000 in
set_option maxHeartbeats 4000000 in
theorem u_X12_isSign (n : Nat) (xs : Nat → Int32) (N d : Nat) (M : mmM) (x1 : Int32) : mm_E n xs N (d + 1) 198 [.int x1] M =
  (if x1 = (61 : Int32) then
  some (some (.int (1 : Int32)), M)
  else
  (if x1 = (60 : Int32) then
    some (some (.int (1 : Int32)), M)
    else
    (if x1 = (62 : Int32) then
      some (some (.int (1 : Int32)), M)
      else
      some (some (.int (0 : Int32)), M)))) := by exact rfl
set_option maxRecDepth 40000 in
set_option maxHeartbeats 4000000 in
theorem u_X12_compare (n : Nat) (xs : Nat → Int32) (N d : Nat) (M : mmM)  : mm_E n xs N (d + 1) 199 [.ref 60] M =
  (if (mm_I M 60 4) = (-1 : Int32) then
  ((mm_aI (mm_E n xs N d 187 [.ref 60] M)).bind fun p1 =>
    ((mm_aI (mm_E n xs N d 198 [.int p1.1] p1.2)).bind fun p2 =>
    (if p2.1 = 0 then
    ((mm_aV (mm_E n xs N d 188 [.ref 60] p2.2)).bind fun p3 =>
      some (none, p3))
    else
    ((mm_aV (mm_E n xs N d 197 [.ref 60] (mm_wI p2.2 60 3 ((mm_I p2.2 60 3) + (1 : Int32))))).bind fun p4 =>
      (if p1.1 = (61 : Int32) then
      ((mm_aV (mm_E n xs N d 190 [.ref 60, .int (6 : Int32), .int (0 : Int32)] p4)).bind fun p5 =>
        some (none, p5))
      else
      (if p1.1 = (60 : Int32) then
        ((mm_aV (mm_E n xs N d 190 [.ref 60, .int (7 : Int32), .int (0 : Int32)] p4)).bind fun p6 =>
          some (none, p6))
        else
        ((mm_aV (mm_E n xs N d 190 [.ref 60, .int (8 : Int32), .int (0 : Int32)] p4)).bind fun p7 =>
          some (none, p7))))))))
  else
  ((mm_aI (mm_E n xs N d 198 [.int (-1 : Int32)] M)).bind fun p8 =>
    (if p8.1 = 0 then
    ((mm_aV (mm_E n xs N d 188 [.ref 60] p8.2)).bind fun p9 =>
      some (none, p9))
    else
    ((mm_aV (mm_E n xs N d 197 [.ref 60] (mm_wI p8.2 60 3 ((mm_I p8.2 60 3) + (1 : Int32))))).bind fun p10 =>
      (if (-1 : Int32) = (61 : Int32) then
      ((mm_aV (mm_E n xs N d 190 [.ref 60, .int (6 : Int32), .int (0 : Int32)] p10)).bind fun p11 =>
        some (none, p11))
      else
      (if (-1 : Int32) = (60 : Int32) then
        ((mm_aV (mm_E n xs N d 190 [.ref 60, .int (7 : Int32), .int (0 : Int32)] p10)).bind fun p12 =>
          some (none, p12))
        else
        ((mm_aV (mm_E n xs N d 190 [.ref 60, .int (8 : Int32), .int (0 : Int32)] p10)).bind fun p13 =>
          some (none, p13)))))))) := by exact rfl
set_option maxRecDepth 40000 in
set_option maxHeartbeats 4000000 in
theorem u_X12_unit (n : Nat) (xs : Nat → Int32) (N d : Nat) (M : mmM)  : mm_E n xs N (d + 1) 200 [.ref 60] M =
  ((mm_aI (mm_E n xs N d 187 [.ref 60] M)).bind fun p1 =>
  (if p1.1 = (33 : Int32) then
  ((mm_aV (mm_E n xs N d 192 [.ref 60] p1.2)).bind fun p2 =>
    (if (mm_I p2 60 4) = (-1 : Int32) then
    ((mm_aV (mm_E n xs N d 200 [.ref 60] p2)).bind fun p3 =>
      ((mm_aV (mm_E n xs N d 190 [.ref 60, .int (9 : Int32), .int (0 : Int32)] p3)).bind fun p4 =>
      some (none, (mm_wI p4 60 5 ((mm_I p4 60 5) - (1 : Int32))))))
    else
    some (none, p2)))
  else
  (if p1.1 = (40 : Int32) then
    ((mm_aV (mm_E n xs N d 192 [.ref 60] p1.2)).bind fun p5 =>
      (if (mm_I p5 60 4) = (-1 : Int32) then
      ((mm_aV (mm_E n xs N d 203 [.ref 60] p5)).bind fun p6 =>
        ((mm_aV (mm_E n xs N d 193 [.ref 60, .int (41 : Int32)] p6)).bind fun p7 =>
        some (none, p7)))
      else
      some (none, p5)))
    else
    ((mm_aV (mm_E n xs N d 197 [.ref 60] p1.2)).bind fun p8 =>
      (if (mm_I p8 60 4) = (-1 : Int32) then
      ((mm_aV (mm_E n xs N d 199 [.ref 60] p8)).bind fun p9 =>
        some (none, p9))
      else
      some (none, p8)))))) := by exact rfl
noncomputable def lp_X12_goOnAnd (n : Nat) (xs : Nat → Int32) (N d f t : Nat) : mmK := mm_lp (mm_Y n xs) (mm_E n xs N d) cd_X12_goOnAnd.1 cd_X12_goOnAnd.2.1 f t
set_option maxRecDepth 40000 in
set_option maxHeartbeats 4000000 in
theorem u_X12_goOnAnd (n : Nat) (xs : Nat → Int32) (N d : Nat) (M : mmM)  : mm_E n xs N (d + 1) 201 [.ref 60] M =
  (if (mm_I M 60 4) = (-1 : Int32) then
  ((mm_aI (mm_E n xs N d 187 [.ref 60] M)).bind fun p1 =>
    (if p1.1 = (38 : Int32) then
    ((mm_aV (mm_E n xs N d 200 [.ref 60] (mm_wI p1.2 60 3 ((mm_I p1.2 60 3) + (1 : Int32))))).bind fun p2 =>
      ((mm_aV (mm_E n xs N d 190 [.ref 60, .int (10 : Int32), .int (0 : Int32)] p2)).bind fun p3 =>
      (lp_X12_goOnAnd n xs N d N 0 [some (.ref 60)] [] p3)))
    else
    some (none, p1.2)))
  else
  some (none, M)) := by exact rfl
set_option maxRecDepth 40000 in
set_option maxHeartbeats 4000000 in
theorem lu_X12_goOnAnd_0 (n : Nat) (xs : Nat → Int32) (N d f : Nat) (M : mmM)  : lp_X12_goOnAnd n xs N d (f + 1) 0 [some (.ref 60)] [] M =
  (if (mm_I M 60 4) = (-1 : Int32) then
  ((mm_aI (mm_E n xs N d 187 [.ref 60] M)).bind fun p4 =>
    (if p4.1 = (38 : Int32) then
    ((mm_aV (mm_E n xs N d 200 [.ref 60] (mm_wI p4.2 60 3 ((mm_I p4.2 60 3) + (1 : Int32))))).bind fun p5 =>
      ((mm_aV (mm_E n xs N d 190 [.ref 60, .int (10 : Int32), .int (0 : Int32)] p5)).bind fun p6 =>
      (lp_X12_goOnAnd n xs N d f 0 [some (.ref 60)] [] p6)))
    else
    some (none, p4.2)))
  else
  some (none, M)) := by exact rfl
noncomputable def lp_X12_goOnOr (n : Nat) (xs : Nat → Int32) (N d f t : Nat) : mmK := mm_lp (mm_Y n xs) (mm_E n xs N d) cd_X12_goOnOr.1 cd_X12_goOnOr.2.1 f t
set_option maxRecDepth 40000 in
set_option maxHeartbeats 4000000 in
theorem u_X12_goOnOr (n : Nat) (xs : Nat → Int32) (N d : Nat) (M : mmM)  : mm_E n xs N (d + 1) 202 [.ref 60] M =
  (if (mm_I M 60 4) = (-1 : Int32) then
  ((mm_aI (mm_E n xs N d 187 [.ref 60] M)).bind fun p1 =>
    (if p1.1 = (124 : Int32) then
    ((mm_aV (mm_E n xs N d 200 [.ref 60] (mm_wI p1.2 60 3 ((mm_I p1.2 60 3) + (1 : Int32))))).bind fun p2 =>
      ((mm_aV (mm_E n xs N d 201 [.ref 60] p2)).bind fun p3 =>
      ((mm_aV (mm_E n xs N d 190 [.ref 60, .int (11 : Int32), .int (0 : Int32)] p3)).bind fun p4 =>
      (lp_X12_goOnOr n xs N d N 0 [some (.ref 60)] [] p4))))
    else
    some (none, p1.2)))
  else
  some (none, M)) := by exact rfl
set_option maxRecDepth 40000 in
set_option maxHeartbeats 4000000 in
theorem lu_X12_goOnOr_0 (n : Nat) (xs : Nat → Int32) (N d f : Nat) (M : mmM)  : lp_X12_goOnOr n xs N d (f + 1) 0 [some (.ref 60)] [] M =
  (if (mm_I M 60 4) = (-1 : Int32) then
  ((mm_aI (mm_E n xs N d 187 [.ref 60] M)).bind fun p5 =>
    (if p5.1 = (124 : Int32) then
    ((mm_aV (mm_E n xs N d 200 [.ref 60] (mm_wI p5.2 60 3 ((mm_I p5.2 60 3) + (1 : Int32))))).bind fun p6 =>
      ((mm_aV (mm_E n xs N d 201 [.ref 60] p6)).bind fun p7 =>
      ((mm_aV (mm_E n xs N d 190 [.ref 60, .int (11 : Int32), .int (0 : Int32)] p7)).bind fun p8 =>
      (lp_X12_goOnOr n xs N d f 0 [some (.ref 60)] [] p8))))
    else
    some (none, p5.2)))
  else
  some (none, M)) := by exact rfl
set_option maxRecDepth 40000 in
set_option maxHeartbeats 4000000 in
theorem u_X12_condition (n : Nat) (xs : Nat → Int32) (N d : Nat) (M : mmM)  : mm_E n xs N (d + 1) 203 [.ref 60] M =
  ((mm_aV (mm_E n xs N d 200 [.ref 60] M)).bind fun p1 =>
  ((mm_aV (mm_E n xs N d 201 [.ref 60] p1)).bind fun p2 =>
  ((mm_aV (mm_E n xs N d 202 [.ref 60] p2)).bind fun p3 =>
  some (none, p3)))) := by exact rfl
noncomputable def lp_X12_clause (n : Nat) (xs : Nat → Int32) (N d f t : Nat) : mmK := mm_lp (mm_Y n xs) (mm_E n xs N d) cd_X12_clause.1 cd_X12_clause.2.1 f t
set_option maxRecDepth 40000 in
set_option maxHeartbeats 4000000 in
theorem u_X12_clause (n : Nat) (xs : Nat → Int32) (N d : Nat) (M : mmM)  : mm_E n xs N (d + 1) 204 [.ref 60] M =
  (cond (mm_inb (mm_I M 60 14) 5)
  (if (mm_I M 60 4) = (-1 : Int32) then
    ((mm_aI (mm_E n xs N d 187 [.ref 60] M)).bind fun p1 =>
      (if p1.1 = (121 : Int32) then
      (lp_X12_clause n xs N d N 40 [some (.ref 60), some (.int (((140 : Int32) * (mm_I M 60 14)) + (mm_I M 65 ((mm_I M 60 14).toNatClampNeg)))), none] [] p1.2)
      else
      ((mm_aV (mm_E n xs N d 188 [.ref 60] p1.2)).bind fun p2 =>
        (lp_X12_clause n xs N d N 40 [some (.ref 60), some (.int (((140 : Int32) * (mm_I M 60 14)) + (mm_I M 65 ((mm_I M 60 14).toNatClampNeg)))), none] [] p2))))
    else
    (lp_X12_clause n xs N d N 40 [some (.ref 60), some (.int (((140 : Int32) * (mm_I M 60 14)) + (mm_I M 65 ((mm_I M 60 14).toNatClampNeg)))), none] [] M)) none) := by exact rfl
set_option maxRecDepth 40000 in
set_option maxHeartbeats 4000000 in
theorem lu_X12_clause_40 (n : Nat) (xs : Nat → Int32) (N d f : Nat) (M : mmM) (y1 : Int32) : lp_X12_clause n xs N d (f + 1) 40 [some (.ref 60), some (.int y1), none] [] M =
  (if (mm_I M 60 4) = (-1 : Int32) then
  ((mm_aI (mm_E n xs N d 187 [.ref 60] (mm_wI M 60 3 ((mm_I M 60 3) + (1 : Int32))))).bind fun p3 =>
    (if p3.1 = (58 : Int32) then
    (lp_X12_clause n xs N d f 71 [some (.ref 60), some (.int y1), none] [] p3.2)
    else
    ((mm_aV (mm_E n xs N d 188 [.ref 60] p3.2)).bind fun p4 =>
      (lp_X12_clause n xs N d f 71 [some (.ref 60), some (.int y1), none] [] p4))))
  else
  (lp_X12_clause n xs N d f 71 [some (.ref 60), some (.int y1), none] [] (mm_wI M 60 3 ((mm_I M 60 3) + (1 : Int32))))) := by exact rfl
set_option maxRecDepth 40000 in
set_option maxHeartbeats 4000000 in
theorem lu_X12_clause_71 (n : Nat) (xs : Nat → Int32) (N d f : Nat) (M : mmM) (y1 : Int32) : lp_X12_clause n xs N d (f + 1) 71 [some (.ref 60), some (.int y1), none] [] M =
  (if (mm_I M 60 4) = (-1 : Int32) then
  (cond (mm_inb (mm_I M 60 14) 5)
    (cond (mm_inb y1 700 && Nat.ble 16 66)
      ((mm_aI (mm_E n xs N d 187 [.ref 60] (mm_wI (mm_wI M 60 3 ((mm_I M 60 3) + (1 : Int32))) 66 y1.toNatClampNeg (mm_I M 64 ((mm_I M 60 14).toNatClampNeg))))).bind fun p5 =>
        (if p5.1 = (33 : Int32) then
        (lp_X12_clause n xs N d f 129 [some (.ref 60), some (.int y1), some (.int (1 : Int32))] [] p5.2)
        else
        ((mm_aI (mm_E n xs N d 187 [.ref 60] p5.2)).bind fun p6 =>
          (if p6.1 = (40 : Int32) then
          (lp_X12_clause n xs N d f 129 [some (.ref 60), some (.int y1), some (.int (1 : Int32))] [] p6.2)
          else
          (lp_X12_clause n xs N d f 129 [some (.ref 60), some (.int y1), some (.int (0 : Int32))] [] p6.2))))) none) none)
  else
  some (none, (mm_wI M 60 3 ((mm_I M 60 3) + (1 : Int32))))) := by exact rfl
set_option maxRecDepth 40000 in
set_option maxHeartbeats 4000000 in
theorem lu_X12_clause_129 (n : Nat) (xs : Nat → Int32) (N d f : Nat) (M : mmM) (y1 : Int32) (y2 : Int32) : lp_X12_clause n xs N d (f + 1) 129 [some (.ref 60), some (.int y1), some (.int y2)] [] M =
  (if y2 = 0 then
  ((mm_aV (mm_E n xs N d 197 [.ref 60] M)).bind fun p7 =>
    (if (mm_I p7 60 4) = (-1 : Int32) then
    ((mm_aI (mm_E n xs N d 187 [.ref 60] p7)).bind fun p8 =>
      ((mm_aI (mm_E n xs N d 198 [.int p8.1] p8.2)).bind fun p9 =>
      (if p9.1 = 0 then
      (if (0 : Int32) = 0 then
        (lp_X12_clause n xs N d f 184 [some (.ref 60), some (.int y1), some (.int (0 : Int32))] [] p9.2)
        else
        ((mm_aV (mm_E n xs N d 199 [.ref 60] p9.2)).bind fun p10 =>
          ((mm_aV (mm_E n xs N d 201 [.ref 60] p10)).bind fun p11 =>
          ((mm_aV (mm_E n xs N d 202 [.ref 60] p11)).bind fun p12 =>
          (lp_X12_clause n xs N d f 184 [some (.ref 60), some (.int y1), some (.int (0 : Int32))] [] p12)))))
      else
      (if (1 : Int32) = 0 then
        (lp_X12_clause n xs N d f 184 [some (.ref 60), some (.int y1), some (.int (1 : Int32))] [] p9.2)
        else
        ((mm_aV (mm_E n xs N d 199 [.ref 60] p9.2)).bind fun p13 =>
          ((mm_aV (mm_E n xs N d 201 [.ref 60] p13)).bind fun p14 =>
          ((mm_aV (mm_E n xs N d 202 [.ref 60] p14)).bind fun p15 =>
          (lp_X12_clause n xs N d f 184 [some (.ref 60), some (.int y1), some (.int (1 : Int32))] [] p15))))))))
    else
    (if (0 : Int32) = 0 then
      (lp_X12_clause n xs N d f 184 [some (.ref 60), some (.int y1), some (.int (0 : Int32))] [] p7)
      else
      ((mm_aV (mm_E n xs N d 199 [.ref 60] p7)).bind fun p16 =>
        ((mm_aV (mm_E n xs N d 201 [.ref 60] p16)).bind fun p17 =>
        ((mm_aV (mm_E n xs N d 202 [.ref 60] p17)).bind fun p18 =>
        (lp_X12_clause n xs N d f 184 [some (.ref 60), some (.int y1), some (.int (0 : Int32))] [] p18)))))))
  else
  ((mm_aV (mm_E n xs N d 203 [.ref 60] M)).bind fun p19 =>
    (lp_X12_clause n xs N d f 184 [some (.ref 60), some (.int y1), some (.int y2)] [] p19))) := by exact rfl
set_option maxRecDepth 40000 in
set_option maxHeartbeats 4000000 in
theorem lu_X12_clause_184 (n : Nat) (xs : Nat → Int32) (N d f : Nat) (M : mmM) (y1 : Int32) (y2 : Int32) : lp_X12_clause n xs N d (f + 1) 184 [some (.ref 60), some (.int y1), some (.int y2)] [] M =
  (cond (mm_inb y1 700)
  (cond (mm_inb y1 700 && Nat.ble 16 67)
    (if y2 = 0 then
      (lp_X12_clause n xs N d f 251 [some (.ref 60), some (.int y1), none] [] (mm_wI M 67 y1.toNatClampNeg (mm_I M 66 y1.toNatClampNeg)))
      else
      (if (mm_I M 60 4) = (-1 : Int32) then
        ((mm_aI (mm_E n xs N d 187 [.ref 60] (mm_wI M 67 y1.toNatClampNeg (mm_I M 66 y1.toNatClampNeg)))).bind fun p20 =>
          (if p20.1 = (63 : Int32) then
          (cond (mm_inb (mm_I p20.2 60 14) 5)
            (cond (mm_inb y1 700 && Nat.ble 16 67)
              ((mm_aV (mm_E n xs N d 197 [.ref 60] (mm_wI (mm_wI p20.2 60 3 ((mm_I p20.2 60 3) + (1 : Int32))) 67 y1.toNatClampNeg (mm_I p20.2 64 ((mm_I p20.2 60 14).toNatClampNeg))))).bind fun p21 =>
                (lp_X12_clause n xs N d f 251 [some (.ref 60), some (.int y1), none] [] p21)) none) none)
          else
          ((mm_aV (mm_E n xs N d 188 [.ref 60] p20.2)).bind fun p22 =>
            some (none, p22))))
        else
        (lp_X12_clause n xs N d f 251 [some (.ref 60), some (.int y1), none] [] (mm_wI M 67 y1.toNatClampNeg (mm_I M 66 y1.toNatClampNeg))))) none) none) := by exact rfl
set_option maxRecDepth 40000 in
set_option maxHeartbeats 4000000 in
theorem lu_X12_clause_251 (n : Nat) (xs : Nat → Int32) (N d f : Nat) (M : mmM) (y1 : Int32) : lp_X12_clause n xs N d (f + 1) 251 [some (.ref 60), some (.int y1), none] [] M =
  (cond (mm_inb (mm_I M 60 14) 5)
  (cond (mm_inb y1 700 && Nat.ble 16 68)
    (cond (mm_inb (mm_I M 60 14) 5)
      (cond (mm_inb (mm_I M 60 14) 5 && Nat.ble 16 65)
        (some (none, (mm_wI (mm_wI M 68 y1.toNatClampNeg (mm_I M 64 ((mm_I M 60 14).toNatClampNeg))) 65 ((mm_I M 60 14).toNatClampNeg) ((mm_I M 65 ((mm_I M 60 14).toNatClampNeg)) + (1 : Int32))))) none) none) none) none) := by exact rfl
set_option maxRecDepth 40000 in
set_option maxHeartbeats 4000000 in
theorem u_X12_open (n : Nat) (xs : Nat → Int32) (N d : Nat) (M : mmM) (x1 : Int32) : mm_E n xs N (d + 1) 205 [.ref 60, .int x1] M =
  (cond (mm_inb x1 5 && Nat.ble 16 64)
  (cond (mm_inb x1 5 && Nat.ble 16 65)
    (some (none, (mm_wI (mm_wI (mm_wI (mm_wI (mm_wI (mm_wI M 60 14 x1) 60 3 (0 : Int32)) 60 4 (-1 : Int32)) 60 5 (0 : Int32)) 64 x1.toNatClampNeg (0 : Int32)) 65 x1.toNatClampNeg (0 : Int32)))) none) none) := by exact rfl
set_option maxRecDepth 40000 in
set_option maxHeartbeats 4000000 in
theorem u_X12_atEnd (n : Nat) (xs : Nat → Int32) (N d : Nat) (M : mmM)  : mm_E n xs N (d + 1) 206 [.ref 60] M =
  (if (mm_I M 60 4) = (-1 : Int32) then
  ((mm_aI (mm_E n xs N d 187 [.ref 60] M)).bind fun p1 =>
    (if p1.1 = (-1 : Int32) then
    some (some (.int (mm_I p1.2 60 4)), p1.2)
    else
    ((mm_aV (mm_E n xs N d 188 [.ref 60] p1.2)).bind fun p2 =>
      some (some (.int (mm_I p2 60 4)), p2))))
  else
  some (some (.int (mm_I M 60 4)), M)) := by exact rfl
noncomputable def lp_X12_readLaw (n : Nat) (xs : Nat → Int32) (N d f t : Nat) : mmK := mm_lp (mm_Y n xs) (mm_E n xs N d) cd_X12_readLaw.1 cd_X12_readLaw.2.1 f t
set_option maxRecDepth 40000 in
set_option maxHeartbeats 4000000 in
theorem u_X12_readLaw (n : Nat) (xs : Nat → Int32) (N d : Nat) (M : mmM) (x1 : Int32) : mm_E n xs N (d + 1) 207 [.ref 60, .int x1] M =
  ((mm_aV (mm_E n xs N d 205 [.ref 60, .int x1] M)).bind fun p1 =>
  ((mm_aV (mm_E n xs N d 204 [.ref 60] p1)).bind fun p2 =>
  (lp_X12_readLaw n xs N d N 9 [some (.ref 60), none] [] p2))) := by exact rfl
set_option maxRecDepth 40000 in
set_option maxHeartbeats 4000000 in
theorem lu_X12_readLaw_9 (n : Nat) (xs : Nat → Int32) (N d f : Nat) (M : mmM)  : lp_X12_readLaw n xs N d (f + 1) 9 [some (.ref 60), none] [] M =
  (if (mm_I M 60 4) = (-1 : Int32) then
  ((mm_aI (mm_E n xs N d 187 [.ref 60] M)).bind fun p3 =>
    (if p3.1 = (59 : Int32) then
    ((mm_aV (mm_E n xs N d 204 [.ref 60] (mm_wI p3.2 60 3 ((mm_I p3.2 60 3) + (1 : Int32))))).bind fun p4 =>
      (lp_X12_readLaw n xs N d f 9 [some (.ref 60), none] [] p4))
    else
    ((mm_aI (mm_E n xs N d 206 [.ref 60] p3.2)).bind fun p5 =>
      some (some (.int p5.1), p5.2))))
  else
  ((mm_aI (mm_E n xs N d 206 [.ref 60] M)).bind fun p6 =>
    some (some (.int p6.1), p6.2))) := by exact rfl
set_option maxRecDepth 40000 in
set_option maxHeartbeats 4000000 in
theorem u_X12_bounded (n : Nat) (xs : Nat → Int32) (N d : Nat) (M : mmM) (x1 : Int64) : mm_E n xs N (d + 1) 208 [.long x1] M =
  ((mm_aJ (mm_E n xs N d 305 [.long (1000000 : Int64), .long x1] M)).bind fun p1 =>
  ((mm_aJ (mm_E n xs N d 303 [.long (-1000000 : Int64), .long p1.1] p1.2)).bind fun p2 =>
  some (some (.int p2.1.toInt32), p2.2))) := by exact rfl
set_option maxRecDepth 40000 in
set_option maxHeartbeats 4000000 in
theorem u_X12_worked (n : Nat) (xs : Nat → Int32) (N d : Nat) (M : mmM) (x1 : Int32) (x2 : Int64) (x3 : Int64) : mm_E n xs N (d + 1) 209 [.int x1, .long x2, .long x3] M =
  (if x1 = 2 then
  ((mm_aI (mm_E n xs N d 208 [.long (x2 + x3)] M)).bind fun p1 =>
    some (some (.int p1.1), p1.2))
  else if x1 = 3 then
  ((mm_aI (mm_E n xs N d 208 [.long (x2 - x3)] M)).bind fun p2 =>
    some (some (.int p2.1), p2.2))
  else if x1 = 4 then
  ((mm_aI (mm_E n xs N d 208 [.long (x2 * x3)] M)).bind fun p3 =>
    some (some (.int p3.1), p3.2))
  else if x1 = 5 then
  (if (lg_cmp x3 (0 : Int64)) = 0 then
    some (some (.int (0 : Int32)), M)
    else
    (if x3 = 0 then none else
      ((mm_aI (mm_E n xs N d 208 [.long (x2 / x3)] M)).bind fun p4 =>
      some (some (.int p4.1), p4.2))))
  else if x1 = 6 then
  (if (lg_cmp x2 x3) = 0 then
    some (some (.int (1 : Int32)), M)
    else
    some (some (.int (0 : Int32)), M))
  else if x1 = 7 then
  (if 0 ≤ (lg_cmp x2 x3) then
    some (some (.int (0 : Int32)), M)
    else
    some (some (.int (1 : Int32)), M))
  else if x1 = 8 then
  (if (lg_cmp x2 x3) ≤ 0 then
    some (some (.int (0 : Int32)), M)
    else
    some (some (.int (1 : Int32)), M))
  else if x1 = 9 then
  (if (lg_cmp x2 (0 : Int64)) = 0 then
    (if (lg_cmp x3 (0 : Int64)) = 0 then
      some (some (.int (0 : Int32)), M)
      else
      some (some (.int (1 : Int32)), M))
    else
    some (some (.int (1 : Int32)), M))
  else if x1 = 10 then
  (if (lg_cmp x2 (0 : Int64)) = 0 then
    some (some (.int (0 : Int32)), M)
    else
    (if (lg_cmp x3 (0 : Int64)) = 0 then
      some (some (.int (0 : Int32)), M)
      else
      some (some (.int (1 : Int32)), M)))
  else (if (lg_cmp x2 (0 : Int64)) = 0 then
    (if (lg_cmp x3 (0 : Int64)) = 0 then
      some (some (.int (0 : Int32)), M)
      else
      some (some (.int (1 : Int32)), M))
    else
    some (some (.int (1 : Int32)), M))) := by exact rfl
noncomputable def lp_X12_worthOf (n : Nat) (xs : Nat → Int32) (N d f t : Nat) : mmK := mm_lp (mm_Y n xs) (mm_E n xs N d) cd_X12_worthOf.1 cd_X12_worthOf.2.1 f t
set_option maxRecDepth 40000 in
set_option maxHeartbeats 4000000 in
theorem u_X12_worthOf (n : Nat) (xs : Nat → Int32) (N d : Nat) (M : mmM) (x1 : Int32) : mm_E n xs N (d + 1) 211 [.ref 60, .int x1] M =
  (lp_X12_worthOf n xs N d N 6 [some (.ref 60), some (.int x1), some (.int ((140 : Int32) * x1))] [] M) := by exact rfl
set_option maxRecDepth 40000 in
set_option maxHeartbeats 4000000 in
theorem lu_X12_worthOf_6 (n : Nat) (xs : Nat → Int32) (N d f : Nat) (M : mmM) (y1 : Int32) (y2 : Int32) : lp_X12_worthOf n xs N d (f + 1) 6 [some (.ref 60), some (.int y1), some (.int y2)] [] M =
  (cond (mm_inb y1 5)
  (if (((140 : Int32) * y1) + (mm_I M 65 y1.toNatClampNeg)) ≤ y2 then
    some (some (.int (0 : Int32)), M)
    else
    (cond (mm_inb y2 700)
      (cond (mm_inb y2 700)
        (if (mm_I M 66 y2.toNatClampNeg) = (mm_I M 67 y2.toNatClampNeg) then
          (cond (mm_inb y2 700)
            (cond (mm_inb y2 700)
              ((mm_aI (mm_E n xs N d 210 [.ref 60, .int y1, .int (mm_I M 67 y2.toNatClampNeg), .int (mm_I M 68 y2.toNatClampNeg)] M)).bind fun p1 =>
                some (some (.int p1.1), p1.2)) none) none)
          else
          (cond (mm_inb y2 700)
            (cond (mm_inb y2 700)
              ((mm_aI (mm_E n xs N d 210 [.ref 60, .int y1, .int (mm_I M 66 y2.toNatClampNeg), .int (mm_I M 67 y2.toNatClampNeg)] M)).bind fun p2 =>
                (if p2.1 = 0 then
                (lp_X12_worthOf n xs N d f 6 [some (.ref 60), some (.int y1), some (.int (y2 + (1 : Int32)))] [] p2.2)
                else
                (cond (mm_inb y2 700)
                  (cond (mm_inb y2 700)
                    ((mm_aI (mm_E n xs N d 210 [.ref 60, .int y1, .int (mm_I p2.2 67 y2.toNatClampNeg), .int (mm_I p2.2 68 y2.toNatClampNeg)] p2.2)).bind fun p3 =>
                      some (some (.int p3.1), p3.2)) none) none))) none) none)) none) none)) none) := by exact rfl
set_option maxRecDepth 40000 in
set_option maxHeartbeats 4000000 in
theorem u_X12_number (n : Nat) (xs : Nat → Int32) (N d : Nat) (M : mmM) (x1 : Int32) (x2 : Int32) : mm_E n xs N (d + 1) 212 [.ref 60, .int x1, .int x2] M =
  ((mm_aI (mm_E n xs N d 187 [.ref 60] M)).bind fun p1 =>
  ((mm_aI (mm_E n xs N d 189 [.int p1.1] p1.2)).bind fun p2 =>
  (if p2.1 = 0 then
  ((mm_aV (mm_E n xs N d 188 [.ref 60] p2.2)).bind fun p3 =>
    some (some (.int x1), p3))
  else
  ((mm_aI (mm_E n xs N d 186 [.ref 60] p2.2)).bind fun p4 =>
    ((mm_aI (mm_E n xs N d 186 [.ref 60] (mm_wI p4.2 60 3 ((mm_I p4.2 60 3) + (1 : Int32))))).bind fun p5 =>
    ((mm_aI (mm_E n xs N d 189 [.int p5.1] p5.2)).bind fun p6 =>
    (if p6.1 = 0 then
    ((mm_aI (mm_E n xs N d 186 [.ref 60] p6.2)).bind fun p7 =>
      ((mm_aI (mm_E n xs N d 189 [.int p7.1] p7.2)).bind fun p8 =>
      (if p8.1 = 0 then
      ((mm_aI (mm_E n xs N d 179 [.int (p4.1 - (48 : Int32)), .int x1, .int x2] p8.2)).bind fun p9 =>
        (if p9.1 = 0 then
        ((mm_aV (mm_E n xs N d 188 [.ref 60] (mm_wI p9.2 60 3 ((mm_I p9.2 60 3) - (1 : Int32))))).bind fun p10 =>
          some (some (.int (p4.1 - (48 : Int32))), p10))
        else
        some (some (.int (p4.1 - (48 : Int32))), p9.2)))
      else
      ((mm_aV (mm_E n xs N d 188 [.ref 60] p8.2)).bind fun p11 =>
        some (some (.int (p4.1 - (48 : Int32))), p11)))))
    else
    ((mm_aI (mm_E n xs N d 186 [.ref 60] p6.2)).bind fun p12 =>
      ((mm_aI (mm_E n xs N d 186 [.ref 60] (mm_wI p12.2 60 3 ((mm_I p12.2 60 3) + (1 : Int32))))).bind fun p13 =>
      ((mm_aI (mm_E n xs N d 189 [.int p13.1] p13.2)).bind fun p14 =>
      (if p14.1 = 0 then
      ((mm_aI (mm_E n xs N d 179 [.int ((((10 : Int32) * (p4.1 - (48 : Int32))) + p12.1) - (48 : Int32)), .int x1, .int x2] p14.2)).bind fun p15 =>
        (if p15.1 = 0 then
        ((mm_aV (mm_E n xs N d 188 [.ref 60] (mm_wI p15.2 60 3 ((mm_I p15.2 60 3) - (1 : Int32))))).bind fun p16 =>
          some (some (.int ((((10 : Int32) * (p4.1 - (48 : Int32))) + p12.1) - (48 : Int32))), p16))
        else
        some (some (.int ((((10 : Int32) * (p4.1 - (48 : Int32))) + p12.1) - (48 : Int32))), p15.2)))
      else
      ((mm_aV (mm_E n xs N d 188 [.ref 60] p14.2)).bind fun p17 =>
        some (some (.int ((((10 : Int32) * (p4.1 - (48 : Int32))) + p12.1) - (48 : Int32))), p17))))))))))))) := by exact rfl
set_option maxRecDepth 40000 in
set_option maxHeartbeats 4000000 in
theorem u_X12_itemOf (n : Nat) (xs : Nat → Int32) (N d : Nat) (M : mmM) (x1 : Int32) (x2 : Int32) : mm_E n xs N (d + 1) 213 [.int x1, .int x2] M =
  (if x1 = 107 then
  (if x2 = (119 : Int32) then
    some (some (.int (0 : Int32)), M)
    else
    (if x2 = (101 : Int32) then
      some (some (.int (1 : Int32)), M)
      else
      some (some (.int (-1 : Int32)), M)))
  else if x1 = 115 then
  (if x2 = (97 : Int32) then
    some (some (.int (0 : Int32)), M)
    else
    (if x2 = (121 : Int32) then
      some (some (.int (1 : Int32)), M)
      else
      (if x2 = (99 : Int32) then
        some (some (.int (2 : Int32)), M)
        else
        (if x2 = (112 : Int32) then
          some (some (.int (3 : Int32)), M)
          else
          some (some (.int (-1 : Int32)), M)))))
  else (if x2 = (119 : Int32) then
    some (some (.int (0 : Int32)), M)
    else
    (if x2 = (118 : Int32) then
      some (some (.int (1 : Int32)), M)
      else
      (if x2 = (110 : Int32) then
        some (some (.int (2 : Int32)), M)
        else
        (if x2 = (108 : Int32) then
          some (some (.int (3 : Int32)), M)
          else
          some (some (.int (-1 : Int32)), M)))))) := by exact rfl
set_option maxRecDepth 40000 in
set_option maxHeartbeats 4000000 in
theorem u_X12_highest (n : Nat) (xs : Nat → Int32) (N d : Nat) (M : mmM) (x1 : Int32) (x2 : Int32) : mm_E n xs N (d + 1) 214 [.int x1, .int x2] M =
  (if x1 = 107 then
  (if x2 = (1 : Int32) then
    some (some (.int (40 : Int32)), M)
    else
    some (some (.int (9 : Int32)), M))
  else if x1 = 115 then
  (if x2 = (2 : Int32) then
    some (some (.int (1 : Int32)), M)
    else
    (if x2 = (3 : Int32) then
      some (some (.int (99 : Int32)), M)
      else
      some (some (.int (9 : Int32)), M)))
  else (if x2 = (2 : Int32) then
    some (some (.int (40 : Int32)), M)
    else
    some (some (.int (9 : Int32)), M))) := by exact rfl
set_option maxRecDepth 40000 in
set_option maxHeartbeats 4000000 in
theorem u_X12_usual (n : Nat) (xs : Nat → Int32) (N d : Nat) (M : mmM) (x1 : Int32) (x2 : Int32) : mm_E n xs N (d + 1) 215 [.int x1, .int x2] M =
  (if x1 = 107 then
  (if x2 = 0 then
    some (some (.int (4 : Int32)), M)
    else
    some (some (.int (15 : Int32)), M))
  else if x1 = 115 then
  (if x2 = 0 then
    some (some (.int (2 : Int32)), M)
    else
    (if x2 = (3 : Int32) then
      some (some (.int (20 : Int32)), M)
      else
      some (some (.int (0 : Int32)), M)))
  else (if x2 = 0 then
    some (some (.int (2 : Int32)), M)
    else
    (if x2 = (1 : Int32) then
      some (some (.int (3 : Int32)), M)
      else
      (if x2 = (2 : Int32) then
        some (some (.int (10 : Int32)), M)
        else
        some (some (.int (1 : Int32)), M))))) := by exact rfl
noncomputable def lp_X12_items (n : Nat) (xs : Nat → Int32) (N d f t : Nat) : mmK := mm_lp (mm_Y n xs) (mm_E n xs N d) cd_X12_items.1 cd_X12_items.2.1 f t
set_option maxRecDepth 40000 in
set_option maxHeartbeats 4000000 in
theorem u_X12_items (n : Nat) (xs : Nat → Int32) (N d : Nat) (M : mmM) (x1 : Int32) (x2 : Nat) (x3 : Int32) (x4 : Int32) : mm_E n xs N (d + 1) 216 [.ref 60, .int x1, .ref x2, .int x3, .int x4] M =
  (lp_X12_items n xs N d N 3 [some (.ref 60), some (.int x1), some (.ref x2), some (.int x3), some (.int x4), some (.int (0 : Int32)), none] [] M) := by exact rfl
set_option maxRecDepth 40000 in
set_option maxHeartbeats 4000000 in
theorem lu_X12_items_3 (n : Nat) (xs : Nat → Int32) (N d f : Nat) (M : mmM) (y1 : Int32) (y2 : Nat) (y3 : Int32) (y4 : Int32) (y5 : Int32) : lp_X12_items n xs N d (f + 1) 3 [some (.ref 60), some (.int y1), some (.ref y2), some (.int y3), some (.int y4), some (.int y5), none] [] M =
  (if y4 ≤ y5 then
  ((mm_aI (mm_E n xs N d 187 [.ref 60] M)).bind fun p1 =>
    ((mm_aI (mm_E n xs N d 213 [.int y1, .int p1.1] p1.2)).bind fun p2 =>
    (lp_X12_items n xs N d f 41 [some (.ref 60), some (.int y1), some (.ref y2), some (.int y3), none, some (.int (0 : Int32)), some (.int p2.1)] [] p2.2)))
  else
  ((mm_aI (mm_E n xs N d 215 [.int y1, .int y5] M)).bind fun p3 =>
    ((mm_arr (mm_s (mm_Y n xs) p3.2 y2) 0).bind fun n4 =>
    (cond (mm_inb (y3 + y5) n4 && Nat.ble 16 y2)
    (lp_X12_items n xs N d f 3 [some (.ref 60), some (.int y1), some (.ref y2), some (.int y3), some (.int y4), some (.int (y5 + (1 : Int32))), none] [] (mm_wI p3.2 y2 ((y3 + y5).toNatClampNeg) p3.1)) none)))) := by exact rfl
set_option maxRecDepth 40000 in
set_option maxHeartbeats 4000000 in
theorem lu_X12_items_41 (n : Nat) (xs : Nat → Int32) (N d f : Nat) (M : mmM) (y1 : Int32) (y2 : Nat) (y3 : Int32) (y5 : Int32) (y6 : Int32) : lp_X12_items n xs N d (f + 1) 41 [some (.ref 60), some (.int y1), some (.ref y2), some (.int y3), none, some (.int y5), some (.int y6)] [] M =
  (if (mm_I M 60 4) = (-1 : Int32) then
  (if y6 = (-1 : Int32) then
    some (none, M)
    else
    ((mm_aI (mm_E n xs N d 180 [.int y5, .int y6] M)).bind fun p5 =>
      (if p5.1 = 0 then
      (if y1 = (107 : Int32) then
        ((mm_aI (mm_E n xs N d 214 [.int y1, .int y6] (mm_wI p5.2 60 3 ((mm_I p5.2 60 3) + (1 : Int32))))).bind fun p6 =>
          ((mm_aI (mm_E n xs N d 212 [.ref 60, .int (1 : Int32), .int p6.1] p6.2)).bind fun p7 =>
          ((mm_arr (mm_s (mm_Y n xs) p7.2 y2) 0).bind fun n8 =>
          (cond (mm_inb (y3 + y6) n8 && Nat.ble 16 y2)
          (if (mm_I (mm_wI p7.2 y2 ((y3 + y6).toNatClampNeg) p7.1) 60 4) = (-1 : Int32) then
            ((mm_aI (mm_E n xs N d 187 [.ref 60] (mm_wI p7.2 y2 ((y3 + y6).toNatClampNeg) p7.1))).bind fun p9 =>
              ((mm_aI (mm_E n xs N d 213 [.int y1, .int p9.1] p9.2)).bind fun p10 =>
              (lp_X12_items n xs N d f 41 [some (.ref 60), some (.int y1), some (.ref y2), some (.int y3), none, some (.int (y5 ||| ((1 : Int32) <<< (y6 &&& 31)))), some (.int p10.1)] [] p10.2)))
            else
            (lp_X12_items n xs N d f 41 [some (.ref 60), some (.int y1), some (.ref y2), some (.int y3), none, some (.int (y5 ||| ((1 : Int32) <<< (y6 &&& 31)))), some (.int (-1 : Int32))] [] (mm_wI p7.2 y2 ((y3 + y6).toNatClampNeg) p7.1))) none))))
        else
        ((mm_aI (mm_E n xs N d 214 [.int y1, .int y6] (mm_wI p5.2 60 3 ((mm_I p5.2 60 3) + (1 : Int32))))).bind fun p11 =>
          ((mm_aI (mm_E n xs N d 212 [.ref 60, .int (0 : Int32), .int p11.1] p11.2)).bind fun p12 =>
          ((mm_arr (mm_s (mm_Y n xs) p12.2 y2) 0).bind fun n13 =>
          (cond (mm_inb (y3 + y6) n13 && Nat.ble 16 y2)
          (if (mm_I (mm_wI p12.2 y2 ((y3 + y6).toNatClampNeg) p12.1) 60 4) = (-1 : Int32) then
            ((mm_aI (mm_E n xs N d 187 [.ref 60] (mm_wI p12.2 y2 ((y3 + y6).toNatClampNeg) p12.1))).bind fun p14 =>
              ((mm_aI (mm_E n xs N d 213 [.int y1, .int p14.1] p14.2)).bind fun p15 =>
              (lp_X12_items n xs N d f 41 [some (.ref 60), some (.int y1), some (.ref y2), some (.int y3), none, some (.int (y5 ||| ((1 : Int32) <<< (y6 &&& 31)))), some (.int p15.1)] [] p15.2)))
            else
            (lp_X12_items n xs N d f 41 [some (.ref 60), some (.int y1), some (.ref y2), some (.int y3), none, some (.int (y5 ||| ((1 : Int32) <<< (y6 &&& 31)))), some (.int (-1 : Int32))] [] (mm_wI p12.2 y2 ((y3 + y6).toNatClampNeg) p12.1))) none)))))
      else
      some (none, p5.2))))
  else
  some (none, M)) := by exact rfl
noncomputable def lp_X12_readDuchy (n : Nat) (xs : Nat → Int32) (N d f t : Nat) : mmK := mm_lp (mm_Y n xs) (mm_E n xs N d) cd_X12_readDuchy.1 cd_X12_readDuchy.2.1 f t
set_option maxRecDepth 40000 in
set_option maxHeartbeats 4000000 in
theorem u_X12_readDuchy (n : Nat) (xs : Nat → Int32) (N d : Nat) (M : mmM)  : mm_E n xs N (d + 1) 217 [.ref 60] M =
  (lp_X12_readDuchy n xs N d N 24 [some (.ref 60), some (.int (0 : Int32)), some (.int (0 : Int32)), none] [] (mm_wI (mm_wI (mm_wI (mm_wI M 60 3 (0 : Int32)) 60 4 (-1 : Int32)) 60 20 (0 : Int32)) 60 21 (0 : Int32))) := by exact rfl
set_option maxRecDepth 40000 in
set_option maxHeartbeats 4000000 in
theorem lu_X12_readDuchy_24 (n : Nat) (xs : Nat → Int32) (N d f : Nat) (M : mmM) (y1 : Int32) (y2 : Int32) : lp_X12_readDuchy n xs N d (f + 1) 24 [some (.ref 60), some (.int y1), some (.int y2), none] [] M =
  (if (4 : Int32) ≤ y2 then
  (lp_X12_readDuchy n xs N d f 49 [some (.ref 60), some (.int y1), some (.int (1 : Int32)), none] [] M)
  else
  ((mm_aI (mm_E n xs N d 215 [.int (115 : Int32), .int y2] M)).bind fun p1 =>
    (cond (mm_inb y2 4 && Nat.ble 16 71)
    (lp_X12_readDuchy n xs N d f 24 [some (.ref 60), some (.int y1), some (.int (y2 + (1 : Int32))), none] [] (mm_wI p1.2 71 y2.toNatClampNeg p1.1)) none))) := by exact rfl
set_option maxRecDepth 40000 in
set_option maxHeartbeats 4000000 in
theorem lu_X12_readDuchy_49 (n : Nat) (xs : Nat → Int32) (N d f : Nat) (M : mmM) (y1 : Int32) (y2 : Int32) : lp_X12_readDuchy n xs N d (f + 1) 49 [some (.ref 60), some (.int y1), some (.int y2), none] [] M =
  (if y2 = 0 then
  (if (mm_I M 60 4) = (-1 : Int32) then
    ((mm_aI (mm_E n xs N d 187 [.ref 60] M)).bind fun p2 =>
      (if p2.1 = (-1 : Int32) then
      (if (mm_I p2.2 60 20) = 0 then
        ((mm_aV (mm_E n xs N d 188 [.ref 60] p2.2)).bind fun p3 =>
          some (some (.int (mm_I p3 60 4)), p3))
        else
        (if (mm_I p2.2 60 21) = 0 then
          ((mm_aV (mm_E n xs N d 188 [.ref 60] p2.2)).bind fun p4 =>
            some (some (.int (mm_I p4 60 4)), p4))
          else
          some (some (.int (mm_I p2.2 60 4)), p2.2)))
      else
      ((mm_aV (mm_E n xs N d 188 [.ref 60] p2.2)).bind fun p5 =>
        some (some (.int (mm_I p5 60 4)), p5))))
    else
    some (some (.int (mm_I M 60 4)), M))
  else
  (if (mm_I M 60 4) = (-1 : Int32) then
    ((mm_aI (mm_E n xs N d 187 [.ref 60] M)).bind fun p6 =>
      (if p6.1 = (115 : Int32) then
      (if y1 = 0 then
        ((mm_aV (mm_E n xs N d 216 [.ref 60, .int p6.1, .ref 71, .int (0 : Int32), .int (4 : Int32)] (mm_wI p6.2 60 3 ((mm_I p6.2 60 3) + (1 : Int32))))).bind fun p7 =>
          (if (mm_I p7 60 4) = (-1 : Int32) then
          ((mm_aI (mm_E n xs N d 187 [.ref 60] p7)).bind fun p8 =>
            (if p8.1 = (59 : Int32) then
            (if (1 : Int32) = 0 then
              (lp_X12_readDuchy n xs N d f 49 [some (.ref 60), some (.int (1 : Int32)), some (.int (1 : Int32)), none] [] (mm_wI p8.2 60 3 ((mm_I p8.2 60 3) + (0 : Int32))))
              else
              (lp_X12_readDuchy n xs N d f 49 [some (.ref 60), some (.int (1 : Int32)), some (.int (1 : Int32)), none] [] (mm_wI p8.2 60 3 ((mm_I p8.2 60 3) + (1 : Int32)))))
            else
            (if (0 : Int32) = 0 then
              (lp_X12_readDuchy n xs N d f 49 [some (.ref 60), some (.int (1 : Int32)), some (.int (0 : Int32)), none] [] (mm_wI p8.2 60 3 ((mm_I p8.2 60 3) + (0 : Int32))))
              else
              (lp_X12_readDuchy n xs N d f 49 [some (.ref 60), some (.int (1 : Int32)), some (.int (0 : Int32)), none] [] (mm_wI p8.2 60 3 ((mm_I p8.2 60 3) + (1 : Int32)))))))
          else
          (if (0 : Int32) = 0 then
            (lp_X12_readDuchy n xs N d f 49 [some (.ref 60), some (.int (1 : Int32)), some (.int (0 : Int32)), none] [] (mm_wI p7 60 3 ((mm_I p7 60 3) + (0 : Int32))))
            else
            (lp_X12_readDuchy n xs N d f 49 [some (.ref 60), some (.int (1 : Int32)), some (.int (0 : Int32)), none] [] (mm_wI p7 60 3 ((mm_I p7 60 3) + (1 : Int32)))))))
        else
        (if p6.1 = (107 : Int32) then
          (if (4 : Int32) ≤ (mm_I p6.2 60 20) then
            (if p6.1 = (109 : Int32) then
              (if (7 : Int32) ≤ (mm_I p6.2 60 21) then
                ((mm_aV (mm_E n xs N d 188 [.ref 60] p6.2)).bind fun p9 =>
                  (if (mm_I p9 60 4) = (-1 : Int32) then
                  ((mm_aI (mm_E n xs N d 187 [.ref 60] p9)).bind fun p10 =>
                    (if p10.1 = (59 : Int32) then
                    (if (1 : Int32) = 0 then
                      (lp_X12_readDuchy n xs N d f 49 [some (.ref 60), some (.int y1), some (.int (1 : Int32)), none] [] (mm_wI p10.2 60 3 ((mm_I p10.2 60 3) + (0 : Int32))))
                      else
                      (lp_X12_readDuchy n xs N d f 49 [some (.ref 60), some (.int y1), some (.int (1 : Int32)), none] [] (mm_wI p10.2 60 3 ((mm_I p10.2 60 3) + (1 : Int32)))))
                    else
                    (if (0 : Int32) = 0 then
                      (lp_X12_readDuchy n xs N d f 49 [some (.ref 60), some (.int y1), some (.int (0 : Int32)), none] [] (mm_wI p10.2 60 3 ((mm_I p10.2 60 3) + (0 : Int32))))
                      else
                      (lp_X12_readDuchy n xs N d f 49 [some (.ref 60), some (.int y1), some (.int (0 : Int32)), none] [] (mm_wI p10.2 60 3 ((mm_I p10.2 60 3) + (1 : Int32)))))))
                  else
                  (if (0 : Int32) = 0 then
                    (lp_X12_readDuchy n xs N d f 49 [some (.ref 60), some (.int y1), some (.int (0 : Int32)), none] [] (mm_wI p9 60 3 ((mm_I p9 60 3) + (0 : Int32))))
                    else
                    (lp_X12_readDuchy n xs N d f 49 [some (.ref 60), some (.int y1), some (.int (0 : Int32)), none] [] (mm_wI p9 60 3 ((mm_I p9 60 3) + (1 : Int32)))))))
                else
                ((mm_aV (mm_E n xs N d 216 [.ref 60, .int p6.1, .ref 73, .int ((4 : Int32) * (mm_I p6.2 60 21)), .int (4 : Int32)] (mm_wI p6.2 60 3 ((mm_I p6.2 60 3) + (1 : Int32))))).bind fun p11 =>
                  (if (mm_I p11 60 4) = (-1 : Int32) then
                  ((mm_aI (mm_E n xs N d 187 [.ref 60] (mm_wI p11 60 21 ((mm_I p11 60 21) + (1 : Int32))))).bind fun p12 =>
                    (if p12.1 = (59 : Int32) then
                    (if (1 : Int32) = 0 then
                      (lp_X12_readDuchy n xs N d f 49 [some (.ref 60), some (.int y1), some (.int (1 : Int32)), none] [] (mm_wI p12.2 60 3 ((mm_I p12.2 60 3) + (0 : Int32))))
                      else
                      (lp_X12_readDuchy n xs N d f 49 [some (.ref 60), some (.int y1), some (.int (1 : Int32)), none] [] (mm_wI p12.2 60 3 ((mm_I p12.2 60 3) + (1 : Int32)))))
                    else
                    (if (0 : Int32) = 0 then
                      (lp_X12_readDuchy n xs N d f 49 [some (.ref 60), some (.int y1), some (.int (0 : Int32)), none] [] (mm_wI p12.2 60 3 ((mm_I p12.2 60 3) + (0 : Int32))))
                      else
                      (lp_X12_readDuchy n xs N d f 49 [some (.ref 60), some (.int y1), some (.int (0 : Int32)), none] [] (mm_wI p12.2 60 3 ((mm_I p12.2 60 3) + (1 : Int32)))))))
                  else
                  (if (0 : Int32) = 0 then
                    (lp_X12_readDuchy n xs N d f 49 [some (.ref 60), some (.int y1), some (.int (0 : Int32)), none] [] (mm_wI (mm_wI p11 60 21 ((mm_I p11 60 21) + (1 : Int32))) 60 3 ((mm_I p11 60 3) + (0 : Int32))))
                    else
                    (lp_X12_readDuchy n xs N d f 49 [some (.ref 60), some (.int y1), some (.int (0 : Int32)), none] [] (mm_wI (mm_wI p11 60 21 ((mm_I p11 60 21) + (1 : Int32))) 60 3 ((mm_I p11 60 3) + (1 : Int32))))))))
              else
              ((mm_aV (mm_E n xs N d 188 [.ref 60] p6.2)).bind fun p13 =>
                (if (mm_I p13 60 4) = (-1 : Int32) then
                ((mm_aI (mm_E n xs N d 187 [.ref 60] p13)).bind fun p14 =>
                  (if p14.1 = (59 : Int32) then
                  (if (1 : Int32) = 0 then
                    (lp_X12_readDuchy n xs N d f 49 [some (.ref 60), some (.int y1), some (.int (1 : Int32)), none] [] (mm_wI p14.2 60 3 ((mm_I p14.2 60 3) + (0 : Int32))))
                    else
                    (lp_X12_readDuchy n xs N d f 49 [some (.ref 60), some (.int y1), some (.int (1 : Int32)), none] [] (mm_wI p14.2 60 3 ((mm_I p14.2 60 3) + (1 : Int32)))))
                  else
                  (if (0 : Int32) = 0 then
                    (lp_X12_readDuchy n xs N d f 49 [some (.ref 60), some (.int y1), some (.int (0 : Int32)), none] [] (mm_wI p14.2 60 3 ((mm_I p14.2 60 3) + (0 : Int32))))
                    else
                    (lp_X12_readDuchy n xs N d f 49 [some (.ref 60), some (.int y1), some (.int (0 : Int32)), none] [] (mm_wI p14.2 60 3 ((mm_I p14.2 60 3) + (1 : Int32)))))))
                else
                (if (0 : Int32) = 0 then
                  (lp_X12_readDuchy n xs N d f 49 [some (.ref 60), some (.int y1), some (.int (0 : Int32)), none] [] (mm_wI p13 60 3 ((mm_I p13 60 3) + (0 : Int32))))
                  else
                  (lp_X12_readDuchy n xs N d f 49 [some (.ref 60), some (.int y1), some (.int (0 : Int32)), none] [] (mm_wI p13 60 3 ((mm_I p13 60 3) + (1 : Int32))))))))
            else
            ((mm_aV (mm_E n xs N d 216 [.ref 60, .int p6.1, .ref 72, .int ((2 : Int32) * (mm_I p6.2 60 20)), .int (2 : Int32)] (mm_wI p6.2 60 3 ((mm_I p6.2 60 3) + (1 : Int32))))).bind fun p15 =>
              (if (mm_I p15 60 4) = (-1 : Int32) then
              ((mm_aI (mm_E n xs N d 187 [.ref 60] (mm_wI p15 60 20 ((mm_I p15 60 20) + (1 : Int32))))).bind fun p16 =>
                (if p16.1 = (59 : Int32) then
                (if (1 : Int32) = 0 then
                  (lp_X12_readDuchy n xs N d f 49 [some (.ref 60), some (.int y1), some (.int (1 : Int32)), none] [] (mm_wI p16.2 60 3 ((mm_I p16.2 60 3) + (0 : Int32))))
                  else
                  (lp_X12_readDuchy n xs N d f 49 [some (.ref 60), some (.int y1), some (.int (1 : Int32)), none] [] (mm_wI p16.2 60 3 ((mm_I p16.2 60 3) + (1 : Int32)))))
                else
                (if (0 : Int32) = 0 then
                  (lp_X12_readDuchy n xs N d f 49 [some (.ref 60), some (.int y1), some (.int (0 : Int32)), none] [] (mm_wI p16.2 60 3 ((mm_I p16.2 60 3) + (0 : Int32))))
                  else
                  (lp_X12_readDuchy n xs N d f 49 [some (.ref 60), some (.int y1), some (.int (0 : Int32)), none] [] (mm_wI p16.2 60 3 ((mm_I p16.2 60 3) + (1 : Int32)))))))
              else
              (if (0 : Int32) = 0 then
                (lp_X12_readDuchy n xs N d f 49 [some (.ref 60), some (.int y1), some (.int (0 : Int32)), none] [] (mm_wI (mm_wI p15 60 20 ((mm_I p15 60 20) + (1 : Int32))) 60 3 ((mm_I p15 60 3) + (0 : Int32))))
                else
                (lp_X12_readDuchy n xs N d f 49 [some (.ref 60), some (.int y1), some (.int (0 : Int32)), none] [] (mm_wI (mm_wI p15 60 20 ((mm_I p15 60 20) + (1 : Int32))) 60 3 ((mm_I p15 60 3) + (1 : Int32))))))))
          else
          (if p6.1 = (109 : Int32) then
            (if (7 : Int32) ≤ (mm_I p6.2 60 21) then
              ((mm_aV (mm_E n xs N d 188 [.ref 60] p6.2)).bind fun p17 =>
                (if (mm_I p17 60 4) = (-1 : Int32) then
                ((mm_aI (mm_E n xs N d 187 [.ref 60] p17)).bind fun p18 =>
                  (if p18.1 = (59 : Int32) then
                  (if (1 : Int32) = 0 then
                    (lp_X12_readDuchy n xs N d f 49 [some (.ref 60), some (.int y1), some (.int (1 : Int32)), none] [] (mm_wI p18.2 60 3 ((mm_I p18.2 60 3) + (0 : Int32))))
                    else
                    (lp_X12_readDuchy n xs N d f 49 [some (.ref 60), some (.int y1), some (.int (1 : Int32)), none] [] (mm_wI p18.2 60 3 ((mm_I p18.2 60 3) + (1 : Int32)))))
                  else
                  (if (0 : Int32) = 0 then
                    (lp_X12_readDuchy n xs N d f 49 [some (.ref 60), some (.int y1), some (.int (0 : Int32)), none] [] (mm_wI p18.2 60 3 ((mm_I p18.2 60 3) + (0 : Int32))))
                    else
                    (lp_X12_readDuchy n xs N d f 49 [some (.ref 60), some (.int y1), some (.int (0 : Int32)), none] [] (mm_wI p18.2 60 3 ((mm_I p18.2 60 3) + (1 : Int32)))))))
                else
                (if (0 : Int32) = 0 then
                  (lp_X12_readDuchy n xs N d f 49 [some (.ref 60), some (.int y1), some (.int (0 : Int32)), none] [] (mm_wI p17 60 3 ((mm_I p17 60 3) + (0 : Int32))))
                  else
                  (lp_X12_readDuchy n xs N d f 49 [some (.ref 60), some (.int y1), some (.int (0 : Int32)), none] [] (mm_wI p17 60 3 ((mm_I p17 60 3) + (1 : Int32)))))))
              else
              ((mm_aV (mm_E n xs N d 216 [.ref 60, .int p6.1, .ref 73, .int ((4 : Int32) * (mm_I p6.2 60 21)), .int (4 : Int32)] (mm_wI p6.2 60 3 ((mm_I p6.2 60 3) + (1 : Int32))))).bind fun p19 =>
                (if (mm_I p19 60 4) = (-1 : Int32) then
                ((mm_aI (mm_E n xs N d 187 [.ref 60] (mm_wI p19 60 21 ((mm_I p19 60 21) + (1 : Int32))))).bind fun p20 =>
                  (if p20.1 = (59 : Int32) then
                  (if (1 : Int32) = 0 then
                    (lp_X12_readDuchy n xs N d f 49 [some (.ref 60), some (.int y1), some (.int (1 : Int32)), none] [] (mm_wI p20.2 60 3 ((mm_I p20.2 60 3) + (0 : Int32))))
                    else
                    (lp_X12_readDuchy n xs N d f 49 [some (.ref 60), some (.int y1), some (.int (1 : Int32)), none] [] (mm_wI p20.2 60 3 ((mm_I p20.2 60 3) + (1 : Int32)))))
                  else
                  (if (0 : Int32) = 0 then
                    (lp_X12_readDuchy n xs N d f 49 [some (.ref 60), some (.int y1), some (.int (0 : Int32)), none] [] (mm_wI p20.2 60 3 ((mm_I p20.2 60 3) + (0 : Int32))))
                    else
                    (lp_X12_readDuchy n xs N d f 49 [some (.ref 60), some (.int y1), some (.int (0 : Int32)), none] [] (mm_wI p20.2 60 3 ((mm_I p20.2 60 3) + (1 : Int32)))))))
                else
                (if (0 : Int32) = 0 then
                  (lp_X12_readDuchy n xs N d f 49 [some (.ref 60), some (.int y1), some (.int (0 : Int32)), none] [] (mm_wI (mm_wI p19 60 21 ((mm_I p19 60 21) + (1 : Int32))) 60 3 ((mm_I p19 60 3) + (0 : Int32))))
                  else
                  (lp_X12_readDuchy n xs N d f 49 [some (.ref 60), some (.int y1), some (.int (0 : Int32)), none] [] (mm_wI (mm_wI p19 60 21 ((mm_I p19 60 21) + (1 : Int32))) 60 3 ((mm_I p19 60 3) + (1 : Int32))))))))
            else
            ((mm_aV (mm_E n xs N d 188 [.ref 60] p6.2)).bind fun p21 =>
              (if (mm_I p21 60 4) = (-1 : Int32) then
              ((mm_aI (mm_E n xs N d 187 [.ref 60] p21)).bind fun p22 =>
                (if p22.1 = (59 : Int32) then
                (if (1 : Int32) = 0 then
                  (lp_X12_readDuchy n xs N d f 49 [some (.ref 60), some (.int y1), some (.int (1 : Int32)), none] [] (mm_wI p22.2 60 3 ((mm_I p22.2 60 3) + (0 : Int32))))
                  else
                  (lp_X12_readDuchy n xs N d f 49 [some (.ref 60), some (.int y1), some (.int (1 : Int32)), none] [] (mm_wI p22.2 60 3 ((mm_I p22.2 60 3) + (1 : Int32)))))
                else
                (if (0 : Int32) = 0 then
                  (lp_X12_readDuchy n xs N d f 49 [some (.ref 60), some (.int y1), some (.int (0 : Int32)), none] [] (mm_wI p22.2 60 3 ((mm_I p22.2 60 3) + (0 : Int32))))
                  else
                  (lp_X12_readDuchy n xs N d f 49 [some (.ref 60), some (.int y1), some (.int (0 : Int32)), none] [] (mm_wI p22.2 60 3 ((mm_I p22.2 60 3) + (1 : Int32)))))))
              else
              (if (0 : Int32) = 0 then
                (lp_X12_readDuchy n xs N d f 49 [some (.ref 60), some (.int y1), some (.int (0 : Int32)), none] [] (mm_wI p21 60 3 ((mm_I p21 60 3) + (0 : Int32))))
                else
                (lp_X12_readDuchy n xs N d f 49 [some (.ref 60), some (.int y1), some (.int (0 : Int32)), none] [] (mm_wI p21 60 3 ((mm_I p21 60 3) + (1 : Int32))))))))))
      else
      (if p6.1 = (107 : Int32) then
        (if (4 : Int32) ≤ (mm_I p6.2 60 20) then
          (if p6.1 = (109 : Int32) then
            (if (7 : Int32) ≤ (mm_I p6.2 60 21) then
              ((mm_aV (mm_E n xs N d 188 [.ref 60] p6.2)).bind fun p23 =>
                (if (mm_I p23 60 4) = (-1 : Int32) then
                ((mm_aI (mm_E n xs N d 187 [.ref 60] p23)).bind fun p24 =>
                  (if p24.1 = (59 : Int32) then
                  (if (1 : Int32) = 0 then
                    (lp_X12_readDuchy n xs N d f 49 [some (.ref 60), some (.int y1), some (.int (1 : Int32)), none] [] (mm_wI p24.2 60 3 ((mm_I p24.2 60 3) + (0 : Int32))))
                    else
                    (lp_X12_readDuchy n xs N d f 49 [some (.ref 60), some (.int y1), some (.int (1 : Int32)), none] [] (mm_wI p24.2 60 3 ((mm_I p24.2 60 3) + (1 : Int32)))))
                  else
                  (if (0 : Int32) = 0 then
                    (lp_X12_readDuchy n xs N d f 49 [some (.ref 60), some (.int y1), some (.int (0 : Int32)), none] [] (mm_wI p24.2 60 3 ((mm_I p24.2 60 3) + (0 : Int32))))
                    else
                    (lp_X12_readDuchy n xs N d f 49 [some (.ref 60), some (.int y1), some (.int (0 : Int32)), none] [] (mm_wI p24.2 60 3 ((mm_I p24.2 60 3) + (1 : Int32)))))))
                else
                (if (0 : Int32) = 0 then
                  (lp_X12_readDuchy n xs N d f 49 [some (.ref 60), some (.int y1), some (.int (0 : Int32)), none] [] (mm_wI p23 60 3 ((mm_I p23 60 3) + (0 : Int32))))
                  else
                  (lp_X12_readDuchy n xs N d f 49 [some (.ref 60), some (.int y1), some (.int (0 : Int32)), none] [] (mm_wI p23 60 3 ((mm_I p23 60 3) + (1 : Int32)))))))
              else
              ((mm_aV (mm_E n xs N d 216 [.ref 60, .int p6.1, .ref 73, .int ((4 : Int32) * (mm_I p6.2 60 21)), .int (4 : Int32)] (mm_wI p6.2 60 3 ((mm_I p6.2 60 3) + (1 : Int32))))).bind fun p25 =>
                (if (mm_I p25 60 4) = (-1 : Int32) then
                ((mm_aI (mm_E n xs N d 187 [.ref 60] (mm_wI p25 60 21 ((mm_I p25 60 21) + (1 : Int32))))).bind fun p26 =>
                  (if p26.1 = (59 : Int32) then
                  (if (1 : Int32) = 0 then
                    (lp_X12_readDuchy n xs N d f 49 [some (.ref 60), some (.int y1), some (.int (1 : Int32)), none] [] (mm_wI p26.2 60 3 ((mm_I p26.2 60 3) + (0 : Int32))))
                    else
                    (lp_X12_readDuchy n xs N d f 49 [some (.ref 60), some (.int y1), some (.int (1 : Int32)), none] [] (mm_wI p26.2 60 3 ((mm_I p26.2 60 3) + (1 : Int32)))))
                  else
                  (if (0 : Int32) = 0 then
                    (lp_X12_readDuchy n xs N d f 49 [some (.ref 60), some (.int y1), some (.int (0 : Int32)), none] [] (mm_wI p26.2 60 3 ((mm_I p26.2 60 3) + (0 : Int32))))
                    else
                    (lp_X12_readDuchy n xs N d f 49 [some (.ref 60), some (.int y1), some (.int (0 : Int32)), none] [] (mm_wI p26.2 60 3 ((mm_I p26.2 60 3) + (1 : Int32)))))))
                else
                (if (0 : Int32) = 0 then
                  (lp_X12_readDuchy n xs N d f 49 [some (.ref 60), some (.int y1), some (.int (0 : Int32)), none] [] (mm_wI (mm_wI p25 60 21 ((mm_I p25 60 21) + (1 : Int32))) 60 3 ((mm_I p25 60 3) + (0 : Int32))))
                  else
                  (lp_X12_readDuchy n xs N d f 49 [some (.ref 60), some (.int y1), some (.int (0 : Int32)), none] [] (mm_wI (mm_wI p25 60 21 ((mm_I p25 60 21) + (1 : Int32))) 60 3 ((mm_I p25 60 3) + (1 : Int32))))))))
            else
            ((mm_aV (mm_E n xs N d 188 [.ref 60] p6.2)).bind fun p27 =>
              (if (mm_I p27 60 4) = (-1 : Int32) then
              ((mm_aI (mm_E n xs N d 187 [.ref 60] p27)).bind fun p28 =>
                (if p28.1 = (59 : Int32) then
                (if (1 : Int32) = 0 then
                  (lp_X12_readDuchy n xs N d f 49 [some (.ref 60), some (.int y1), some (.int (1 : Int32)), none] [] (mm_wI p28.2 60 3 ((mm_I p28.2 60 3) + (0 : Int32))))
                  else
                  (lp_X12_readDuchy n xs N d f 49 [some (.ref 60), some (.int y1), some (.int (1 : Int32)), none] [] (mm_wI p28.2 60 3 ((mm_I p28.2 60 3) + (1 : Int32)))))
                else
                (if (0 : Int32) = 0 then
                  (lp_X12_readDuchy n xs N d f 49 [some (.ref 60), some (.int y1), some (.int (0 : Int32)), none] [] (mm_wI p28.2 60 3 ((mm_I p28.2 60 3) + (0 : Int32))))
                  else
                  (lp_X12_readDuchy n xs N d f 49 [some (.ref 60), some (.int y1), some (.int (0 : Int32)), none] [] (mm_wI p28.2 60 3 ((mm_I p28.2 60 3) + (1 : Int32)))))))
              else
              (if (0 : Int32) = 0 then
                (lp_X12_readDuchy n xs N d f 49 [some (.ref 60), some (.int y1), some (.int (0 : Int32)), none] [] (mm_wI p27 60 3 ((mm_I p27 60 3) + (0 : Int32))))
                else
                (lp_X12_readDuchy n xs N d f 49 [some (.ref 60), some (.int y1), some (.int (0 : Int32)), none] [] (mm_wI p27 60 3 ((mm_I p27 60 3) + (1 : Int32))))))))
          else
          ((mm_aV (mm_E n xs N d 216 [.ref 60, .int p6.1, .ref 72, .int ((2 : Int32) * (mm_I p6.2 60 20)), .int (2 : Int32)] (mm_wI p6.2 60 3 ((mm_I p6.2 60 3) + (1 : Int32))))).bind fun p29 =>
            (if (mm_I p29 60 4) = (-1 : Int32) then
            ((mm_aI (mm_E n xs N d 187 [.ref 60] (mm_wI p29 60 20 ((mm_I p29 60 20) + (1 : Int32))))).bind fun p30 =>
              (if p30.1 = (59 : Int32) then
              (if (1 : Int32) = 0 then
                (lp_X12_readDuchy n xs N d f 49 [some (.ref 60), some (.int y1), some (.int (1 : Int32)), none] [] (mm_wI p30.2 60 3 ((mm_I p30.2 60 3) + (0 : Int32))))
                else
                (lp_X12_readDuchy n xs N d f 49 [some (.ref 60), some (.int y1), some (.int (1 : Int32)), none] [] (mm_wI p30.2 60 3 ((mm_I p30.2 60 3) + (1 : Int32)))))
              else
              (if (0 : Int32) = 0 then
                (lp_X12_readDuchy n xs N d f 49 [some (.ref 60), some (.int y1), some (.int (0 : Int32)), none] [] (mm_wI p30.2 60 3 ((mm_I p30.2 60 3) + (0 : Int32))))
                else
                (lp_X12_readDuchy n xs N d f 49 [some (.ref 60), some (.int y1), some (.int (0 : Int32)), none] [] (mm_wI p30.2 60 3 ((mm_I p30.2 60 3) + (1 : Int32)))))))
            else
            (if (0 : Int32) = 0 then
              (lp_X12_readDuchy n xs N d f 49 [some (.ref 60), some (.int y1), some (.int (0 : Int32)), none] [] (mm_wI (mm_wI p29 60 20 ((mm_I p29 60 20) + (1 : Int32))) 60 3 ((mm_I p29 60 3) + (0 : Int32))))
              else
              (lp_X12_readDuchy n xs N d f 49 [some (.ref 60), some (.int y1), some (.int (0 : Int32)), none] [] (mm_wI (mm_wI p29 60 20 ((mm_I p29 60 20) + (1 : Int32))) 60 3 ((mm_I p29 60 3) + (1 : Int32))))))))
        else
        (if p6.1 = (109 : Int32) then
          (if (7 : Int32) ≤ (mm_I p6.2 60 21) then
            ((mm_aV (mm_E n xs N d 188 [.ref 60] p6.2)).bind fun p31 =>
              (if (mm_I p31 60 4) = (-1 : Int32) then
              ((mm_aI (mm_E n xs N d 187 [.ref 60] p31)).bind fun p32 =>
                (if p32.1 = (59 : Int32) then
                (if (1 : Int32) = 0 then
                  (lp_X12_readDuchy n xs N d f 49 [some (.ref 60), some (.int y1), some (.int (1 : Int32)), none] [] (mm_wI p32.2 60 3 ((mm_I p32.2 60 3) + (0 : Int32))))
                  else
                  (lp_X12_readDuchy n xs N d f 49 [some (.ref 60), some (.int y1), some (.int (1 : Int32)), none] [] (mm_wI p32.2 60 3 ((mm_I p32.2 60 3) + (1 : Int32)))))
                else
                (if (0 : Int32) = 0 then
                  (lp_X12_readDuchy n xs N d f 49 [some (.ref 60), some (.int y1), some (.int (0 : Int32)), none] [] (mm_wI p32.2 60 3 ((mm_I p32.2 60 3) + (0 : Int32))))
                  else
                  (lp_X12_readDuchy n xs N d f 49 [some (.ref 60), some (.int y1), some (.int (0 : Int32)), none] [] (mm_wI p32.2 60 3 ((mm_I p32.2 60 3) + (1 : Int32)))))))
              else
              (if (0 : Int32) = 0 then
                (lp_X12_readDuchy n xs N d f 49 [some (.ref 60), some (.int y1), some (.int (0 : Int32)), none] [] (mm_wI p31 60 3 ((mm_I p31 60 3) + (0 : Int32))))
                else
                (lp_X12_readDuchy n xs N d f 49 [some (.ref 60), some (.int y1), some (.int (0 : Int32)), none] [] (mm_wI p31 60 3 ((mm_I p31 60 3) + (1 : Int32)))))))
            else
            ((mm_aV (mm_E n xs N d 216 [.ref 60, .int p6.1, .ref 73, .int ((4 : Int32) * (mm_I p6.2 60 21)), .int (4 : Int32)] (mm_wI p6.2 60 3 ((mm_I p6.2 60 3) + (1 : Int32))))).bind fun p33 =>
              (if (mm_I p33 60 4) = (-1 : Int32) then
              ((mm_aI (mm_E n xs N d 187 [.ref 60] (mm_wI p33 60 21 ((mm_I p33 60 21) + (1 : Int32))))).bind fun p34 =>
                (if p34.1 = (59 : Int32) then
                (if (1 : Int32) = 0 then
                  (lp_X12_readDuchy n xs N d f 49 [some (.ref 60), some (.int y1), some (.int (1 : Int32)), none] [] (mm_wI p34.2 60 3 ((mm_I p34.2 60 3) + (0 : Int32))))
                  else
                  (lp_X12_readDuchy n xs N d f 49 [some (.ref 60), some (.int y1), some (.int (1 : Int32)), none] [] (mm_wI p34.2 60 3 ((mm_I p34.2 60 3) + (1 : Int32)))))
                else
                (if (0 : Int32) = 0 then
                  (lp_X12_readDuchy n xs N d f 49 [some (.ref 60), some (.int y1), some (.int (0 : Int32)), none] [] (mm_wI p34.2 60 3 ((mm_I p34.2 60 3) + (0 : Int32))))
                  else
                  (lp_X12_readDuchy n xs N d f 49 [some (.ref 60), some (.int y1), some (.int (0 : Int32)), none] [] (mm_wI p34.2 60 3 ((mm_I p34.2 60 3) + (1 : Int32)))))))
              else
              (if (0 : Int32) = 0 then
                (lp_X12_readDuchy n xs N d f 49 [some (.ref 60), some (.int y1), some (.int (0 : Int32)), none] [] (mm_wI (mm_wI p33 60 21 ((mm_I p33 60 21) + (1 : Int32))) 60 3 ((mm_I p33 60 3) + (0 : Int32))))
                else
                (lp_X12_readDuchy n xs N d f 49 [some (.ref 60), some (.int y1), some (.int (0 : Int32)), none] [] (mm_wI (mm_wI p33 60 21 ((mm_I p33 60 21) + (1 : Int32))) 60 3 ((mm_I p33 60 3) + (1 : Int32))))))))
          else
          ((mm_aV (mm_E n xs N d 188 [.ref 60] p6.2)).bind fun p35 =>
            (if (mm_I p35 60 4) = (-1 : Int32) then
            ((mm_aI (mm_E n xs N d 187 [.ref 60] p35)).bind fun p36 =>
              (if p36.1 = (59 : Int32) then
              (if (1 : Int32) = 0 then
                (lp_X12_readDuchy n xs N d f 49 [some (.ref 60), some (.int y1), some (.int (1 : Int32)), none] [] (mm_wI p36.2 60 3 ((mm_I p36.2 60 3) + (0 : Int32))))
                else
                (lp_X12_readDuchy n xs N d f 49 [some (.ref 60), some (.int y1), some (.int (1 : Int32)), none] [] (mm_wI p36.2 60 3 ((mm_I p36.2 60 3) + (1 : Int32)))))
              else
              (if (0 : Int32) = 0 then
                (lp_X12_readDuchy n xs N d f 49 [some (.ref 60), some (.int y1), some (.int (0 : Int32)), none] [] (mm_wI p36.2 60 3 ((mm_I p36.2 60 3) + (0 : Int32))))
                else
                (lp_X12_readDuchy n xs N d f 49 [some (.ref 60), some (.int y1), some (.int (0 : Int32)), none] [] (mm_wI p36.2 60 3 ((mm_I p36.2 60 3) + (1 : Int32)))))))
            else
            (if (0 : Int32) = 0 then
              (lp_X12_readDuchy n xs N d f 49 [some (.ref 60), some (.int y1), some (.int (0 : Int32)), none] [] (mm_wI p35 60 3 ((mm_I p35 60 3) + (0 : Int32))))
              else
              (lp_X12_readDuchy n xs N d f 49 [some (.ref 60), some (.int y1), some (.int (0 : Int32)), none] [] (mm_wI p35 60 3 ((mm_I p35 60 3) + (1 : Int32)))))))))))
    else
    (if (mm_I M 60 4) = (-1 : Int32) then
      ((mm_aI (mm_E n xs N d 187 [.ref 60] M)).bind fun p37 =>
        (if p37.1 = (-1 : Int32) then
        (if (mm_I p37.2 60 20) = 0 then
          ((mm_aV (mm_E n xs N d 188 [.ref 60] p37.2)).bind fun p38 =>
            some (some (.int (mm_I p38 60 4)), p38))
          else
          (if (mm_I p37.2 60 21) = 0 then
            ((mm_aV (mm_E n xs N d 188 [.ref 60] p37.2)).bind fun p39 =>
              some (some (.int (mm_I p39 60 4)), p39))
            else
            some (some (.int (mm_I p37.2 60 4)), p37.2)))
        else
        ((mm_aV (mm_E n xs N d 188 [.ref 60] p37.2)).bind fun p40 =>
          some (some (.int (mm_I p40 60 4)), p40))))
      else
      some (some (.int (mm_I M 60 4)), M)))) := by exact rfl
set_option maxRecDepth 40000 in
set_option maxHeartbeats 4000000 in
theorem u_X12_fault (n : Nat) (xs : Nat → Int32) (N d : Nat) (M : mmM) (x1 : Int32) : mm_E n xs N (d + 1) 218 [.ref 60, .int x1] M =
  (if x1 = 0 then
  ((mm_aI (mm_E n xs N d 217 [.ref 60] M)).bind fun p1 =>
    some (some (.int p1.1), p1.2))
  else
  (if x1 = (1 : Int32) then
    ((mm_aI (mm_E n xs N d 207 [.ref 60, .int (4 : Int32)] M)).bind fun p2 =>
      some (some (.int p2.1), p2.2))
    else
    some (some (.int (-2 : Int32)), M))) := by exact rfl
noncomputable def lp_X12_takeDuchy (n : Nat) (xs : Nat → Int32) (N d f t : Nat) : mmK := mm_lp (mm_Y n xs) (mm_E n xs N d) cd_X12_takeDuchy.1 cd_X12_takeDuchy.2.1 f t
set_option maxRecDepth 40000 in
set_option maxHeartbeats 4000000 in
theorem u_X12_takeDuchy (n : Nat) (xs : Nat → Int32) (N d : Nat) (M : mmM)  : mm_E n xs N (d + 1) 219 [.ref 60] M =
  (lp_X12_takeDuchy n xs N d N 18 [some (.ref 60), some (.int (0 : Int32))] [] (mm_wI (mm_wI M 60 25 (mm_I M 60 20)) 60 26 (mm_I M 60 21))) := by exact rfl
set_option maxRecDepth 40000 in
set_option maxHeartbeats 4000000 in
theorem lu_X12_takeDuchy_18 (n : Nat) (xs : Nat → Int32) (N d f : Nat) (M : mmM) (y1 : Int32) : lp_X12_takeDuchy n xs N d (f + 1) 18 [some (.ref 60), some (.int y1)] [] M =
  (if (4 : Int32) ≤ y1 then
  (lp_X12_takeDuchy n xs N d f 43 [some (.ref 60), some (.int (0 : Int32))] [] M)
  else
  (cond (mm_inb y1 4)
    (cond (mm_inb y1 4 && Nat.ble 16 74)
      (lp_X12_takeDuchy n xs N d f 18 [some (.ref 60), some (.int (y1 + (1 : Int32)))] [] (mm_wI M 74 y1.toNatClampNeg (mm_I M 71 y1.toNatClampNeg))) none) none)) := by exact rfl
set_option maxRecDepth 40000 in
set_option maxHeartbeats 4000000 in
theorem lu_X12_takeDuchy_43 (n : Nat) (xs : Nat → Int32) (N d f : Nat) (M : mmM) (y1 : Int32) : lp_X12_takeDuchy n xs N d (f + 1) 43 [some (.ref 60), some (.int y1)] [] M =
  (if (8 : Int32) ≤ y1 then
  (lp_X12_takeDuchy n xs N d f 69 [some (.ref 60), some (.int (0 : Int32))] [] M)
  else
  (cond (mm_inb y1 8)
    (cond (mm_inb y1 8 && Nat.ble 16 75)
      (lp_X12_takeDuchy n xs N d f 43 [some (.ref 60), some (.int (y1 + (1 : Int32)))] [] (mm_wI M 75 y1.toNatClampNeg (mm_I M 72 y1.toNatClampNeg))) none) none)) := by exact rfl
set_option maxRecDepth 40000 in
set_option maxHeartbeats 4000000 in
theorem lu_X12_takeDuchy_69 (n : Nat) (xs : Nat → Int32) (N d f : Nat) (M : mmM) (y1 : Int32) : lp_X12_takeDuchy n xs N d (f + 1) 69 [some (.ref 60), some (.int y1)] [] M =
  (if (28 : Int32) ≤ y1 then
  (lp_X12_takeDuchy n xs N d f 95 [some (.ref 60), some (.int (0 : Int32))] [] M)
  else
  (cond (mm_inb y1 28)
    (cond (mm_inb y1 28 && Nat.ble 16 76)
      (lp_X12_takeDuchy n xs N d f 69 [some (.ref 60), some (.int (y1 + (1 : Int32)))] [] (mm_wI M 76 y1.toNatClampNeg (mm_I M 73 y1.toNatClampNeg))) none) none)) := by exact rfl
set_option maxRecDepth 40000 in
set_option maxHeartbeats 4000000 in
theorem lu_X12_takeDuchy_95 (n : Nat) (xs : Nat → Int32) (N d f : Nat) (M : mmM) (y1 : Int32) : lp_X12_takeDuchy n xs N d (f + 1) 95 [some (.ref 60), some (.int y1)] [] M =
  (if (198 : Int32) ≤ y1 then
  (lp_X12_takeDuchy n xs N d f 117 [some (.ref 60), some (.int (0 : Int32))] [] M)
  else
  (cond (mm_inb y1 198 && Nat.ble 16 77)
    (lp_X12_takeDuchy n xs N d f 95 [some (.ref 60), some (.int (y1 + (1 : Int32)))] [] (mm_wI M 77 y1.toNatClampNeg (0 : Int32))) none)) := by exact rfl
set_option maxRecDepth 40000 in
set_option maxHeartbeats 4000000 in
theorem lu_X12_takeDuchy_117 (n : Nat) (xs : Nat → Int32) (N d f : Nat) (M : mmM) (y1 : Int32) : lp_X12_takeDuchy n xs N d (f + 1) 117 [some (.ref 60), some (.int y1)] [] M =
  (if (mm_I M 60 25) ≤ y1 then
  some (some (.int (mm_I M 60 26)), (mm_wI (mm_wI (mm_wI (mm_wI (mm_wI M 77 12 (mm_I M 74 1)) 77 13 (mm_I M 74 3)) 60 43 (0 : Int32)) 60 32 (0 : Int32)) 60 45 (0 : Int32)))
  else
  (cond (mm_inb (((2 : Int32) * y1) + (0 : Int32)) 8)
    (cond (mm_inb ((0 : Int32) + y1) 198 && Nat.ble 16 77)
      (lp_X12_takeDuchy n xs N d f 117 [some (.ref 60), some (.int (y1 + (1 : Int32)))] [] (mm_wI M 77 (((0 : Int32) + y1).toNatClampNeg) (mm_I M 75 ((((2 : Int32) * y1) + (0 : Int32)).toNatClampNeg)))) none) none)) := by exact rfl
set_option maxRecDepth 40000 in
set_option maxHeartbeats 4000000 in
theorem u_X12_text (n : Nat) (xs : Nat → Int32) (N d : Nat) (M : mmM) (x1 : Int32) : mm_E n xs N (d + 1) 220 [.ref 60, .int x1] M =
  (if x1 = 0 then
  ((mm_aI (mm_E n xs N d 217 [.ref 60] M)).bind fun p1 =>
    (if p1.1 = (-1 : Int32) then
    ((mm_aI (mm_E n xs N d 219 [.ref 60] (mm_wI p1.2 60 2 (0 : Int32)))).bind fun p2 =>
      some (some (.int p2.1), p2.2))
    else
    (if x1 = (1 : Int32) then
      (if (4 : Int32) ≤ (mm_I p1.2 60 13) then
        some (some (.int (-1 : Int32)), p1.2)
        else
        ((mm_aI (mm_E n xs N d 207 [.ref 60, .int (mm_I p1.2 60 13)] p1.2)).bind fun p3 =>
          (if p3.1 = (-1 : Int32) then
          some (some (.int (((mm_I p3.2 60 13) + (1 : Int32)) - (1 : Int32))), (mm_wI (mm_wI p3.2 60 2 (0 : Int32)) 60 13 ((mm_I p3.2 60 13) + (1 : Int32))))
          else
          some (some (.int (-1 : Int32)), p3.2))))
      else
      some (some (.int (-1 : Int32)), p1.2))))
  else
  (if x1 = (1 : Int32) then
    (if (4 : Int32) ≤ (mm_I M 60 13) then
      some (some (.int (-1 : Int32)), M)
      else
      ((mm_aI (mm_E n xs N d 207 [.ref 60, .int (mm_I M 60 13)] M)).bind fun p4 =>
        (if p4.1 = (-1 : Int32) then
        some (some (.int (((mm_I p4.2 60 13) + (1 : Int32)) - (1 : Int32))), (mm_wI (mm_wI p4.2 60 2 (0 : Int32)) 60 13 ((mm_I p4.2 60 13) + (1 : Int32))))
        else
        some (some (.int (-1 : Int32)), p4.2))))
    else
    some (some (.int (-1 : Int32)), M))) := by exact rfl
set_option maxRecDepth 40000 in
set_option maxHeartbeats 4000000 in
theorem u_X12_of (n : Nat) (xs : Nat → Int32) (N d : Nat) (M : mmM) (x1 : Int32) (x2 : Int32) : mm_E n xs N (d + 1) 221 [.ref 60, .int x1, .int x2] M =
  (cond (mm_inb (((4 : Int32) * x1) + x2) 28)
  (some (some (.int (mm_I M 76 ((((4 : Int32) * x1) + x2).toNatClampNeg))), M)) none) := by exact rfl
set_option maxRecDepth 40000 in
set_option maxHeartbeats 4000000 in
theorem u_X12_isCook (n : Nat) (xs : Nat → Int32) (N d : Nat) (M : mmM) (x1 : Int32) : mm_E n xs N (d + 1) 222 [.ref 60, .int x1] M =
  ((mm_aI (mm_E n xs N d 179 [.int x1, .int (0 : Int32), .int ((mm_I M 60 25) - (1 : Int32))] M)).bind fun p1 =>
  (if p1.1 = 0 then some (some (.int 0), p1.2) else if p1.1 = 1 then some (some (.int 1), p1.2) else none)) := by exact rfl
set_option maxRecDepth 40000 in
set_option maxHeartbeats 4000000 in
theorem u_X12_isMinister (n : Nat) (xs : Nat → Int32) (N d : Nat) (M : mmM) (x1 : Int32) : mm_E n xs N (d + 1) 223 [.ref 60, .int x1] M =
  ((mm_aI (mm_E n xs N d 179 [.int x1, .int (0 : Int32), .int ((mm_I M 60 26) - (1 : Int32))] M)).bind fun p1 =>
  (if p1.1 = 0 then some (some (.int 0), p1.2) else if p1.1 = 1 then some (some (.int 1), p1.2) else none)) := by exact rfl
set_option maxRecDepth 40000 in
set_option maxHeartbeats 4000000 in
theorem u_X12_leftOf (n : Nat) (xs : Nat → Int32) (N d : Nat) (M : mmM) (x1 : Int32) : mm_E n xs N (d + 1) 224 [.ref 60, .int x1] M =
  (cond (mm_inb (((2 : Int32) * x1) + (1 : Int32)) 8)
  (cond (mm_inb ((4 : Int32) + x1) 198)
    (some (some (.int ((mm_I M 75 ((((2 : Int32) * x1) + (1 : Int32)).toNatClampNeg)) - (mm_I M 77 (((4 : Int32) + x1).toNatClampNeg)))), M)) none) none) := by exact rfl
set_option maxRecDepth 40000 in
set_option maxHeartbeats 4000000 in
theorem u_X12_held (n : Nat) (xs : Nat → Int32) (N d : Nat) (M : mmM) (x1 : Int32) : mm_E n xs N (d + 1) 225 [.int x1] M =
  ((mm_aI (mm_E n xs N d 304 [.int (99 : Int32), .int x1] M)).bind fun p1 =>
  ((mm_aI (mm_E n xs N d 302 [.int (0 : Int32), .int p1.1] p1.2)).bind fun p2 =>
  some (some (.int p2.1), p2.2))) := by exact rfl
set_option maxRecDepth 40000 in
set_option maxHeartbeats 4000000 in
theorem u_X12_strokeBy (n : Nat) (xs : Nat → Int32) (N d : Nat) (M : mmM) (x1 : Int32) (x2 : Int32) (x3 : Int32) (x4 : Int32) : mm_E n xs N (d + 1) 226 [.ref 60, .int x1, .int x2, .int x3, .int x4] M =
  (if (10 : Int32) = 0 then none else
    (if (mm_I M 60 29) = (-1 : Int32) then
    ((mm_aI (mm_E n xs N d 304 [.int (9 : Int32), .int (((x1 + ((2 : Int32) * (mm_I M 74 2))) - x4) - ((3 : Int32) * (x3 / (10 : Int32))))] M)).bind fun p1 =>
      ((mm_aI (mm_E n xs N d 302 [.int (-9 : Int32), .int p1.1] p1.2)).bind fun p2 =>
      ((mm_aI (mm_E n xs N d 225 [.int (x2 + p2.1)] p2.2)).bind fun p3 =>
      some (some (.int p3.1), p3.2))))
    else
    ((mm_aI (mm_E n xs N d 211 [.ref 60, .int (mm_I M 60 29)] (mm_wI (mm_wI (mm_wI (mm_wI (mm_wI (mm_wI M 69 0 x1) 69 1 x2) 69 2 x3) 69 3 x4) 69 4 (mm_I M 74 0)) 69 5 (mm_I M 74 2)))).bind fun p4 =>
                      ((mm_aI (mm_E n xs N d 304 [.int (9 : Int32), .int p4.1] p4.2)).bind fun p5 =>
                      ((mm_aI (mm_E n xs N d 302 [.int (-9 : Int32), .int p5.1] p5.2)).bind fun p6 =>
                      ((mm_aI (mm_E n xs N d 225 [.int (x2 + p6.1)] p6.2)).bind fun p7 =>
                      some (some (.int p7.1), p7.2))))))) := by exact rfl
set_option maxRecDepth 40000 in
set_option maxHeartbeats 4000000 in
theorem u_X12_strokeNow (n : Nat) (xs : Nat → Int32) (N d : Nat) (M : mmM) (x1 : Int32) : mm_E n xs N (d + 1) 227 [.ref 60, .int x1] M =
  (cond (mm_inb ((0 : Int32) + x1) 198)
  ((mm_aI (mm_E n xs N d 226 [.ref 60, .int (mm_I M 77 (((0 : Int32) + x1).toNatClampNeg)), .int (mm_I M 77 8), .int (mm_I M 77 9), .int (mm_I M 77 12)] M)).bind fun p1 =>
          (cond (mm_inb ((4 : Int32) + x1) 198)
                (cond (mm_inb ((4 : Int32) + x1) 198 && Nat.ble 16 77)
                  (some (none, (mm_wI (mm_wI (mm_wI p1.2 77 8 p1.1) 77 9 ((mm_I p1.2 77 9) + (1 : Int32))) 77 (((4 : Int32) + x1).toNatClampNeg) ((mm_I (mm_wI (mm_wI p1.2 77 8 p1.1) 77 9 ((mm_I p1.2 77 9) + (1 : Int32))) 77 (((4 : Int32) + x1).toNatClampNeg)) + (1 : Int32))))) none) none)) none) := by exact rfl
noncomputable def lp_X12_strokesNow (n : Nat) (xs : Nat → Int32) (N d f t : Nat) : mmK := mm_lp (mm_Y n xs) (mm_E n xs N d) cd_X12_strokesNow.1 cd_X12_strokesNow.2.1 f t
set_option maxRecDepth 40000 in
set_option maxHeartbeats 4000000 in
theorem u_X12_strokesNow (n : Nat) (xs : Nat → Int32) (N d : Nat) (M : mmM) (x1 : Int32) (x2 : Int32) : mm_E n xs N (d + 1) 228 [.ref 60, .int x1, .int x2] M =
  (lp_X12_strokesNow n xs N d N 2 [some (.ref 60), some (.int x1), some (.int x2), some (.int (0 : Int32))] [] M) := by exact rfl
set_option maxRecDepth 40000 in
set_option maxHeartbeats 4000000 in
theorem lu_X12_strokesNow_2 (n : Nat) (xs : Nat → Int32) (N d f : Nat) (M : mmM) (y1 : Int32) (y2 : Int32) (y3 : Int32) : lp_X12_strokesNow n xs N d (f + 1) 2 [some (.ref 60), some (.int y1), some (.int y2), some (.int y3)] [] M =
  (if y2 ≤ y3 then
  some (none, M)
  else
  ((mm_aV (mm_E n xs N d 227 [.ref 60, .int y1] M)).bind fun p1 =>
    (lp_X12_strokesNow n xs N d f 2 [some (.ref 60), some (.int y1), some (.int y2), some (.int (y3 + (1 : Int32)))] [] p1))) := by exact rfl
noncomputable def lp_X12_weightIn (n : Nat) (xs : Nat → Int32) (N d f t : Nat) : mmK := mm_lp (mm_Y n xs) (mm_E n xs N d) cd_X12_weightIn.1 cd_X12_weightIn.2.1 f t
set_option maxRecDepth 40000 in
set_option maxHeartbeats 4000000 in
theorem u_X12_weightIn (n : Nat) (xs : Nat → Int32) (N d : Nat) (M : mmM)  : mm_E n xs N (d + 1) 229 [.ref 60] M =
  (lp_X12_weightIn n xs N d N 4 [some (.ref 60), some (.int (0 : Int32)), some (.int (0 : Int32))] [] M) := by exact rfl
set_option maxRecDepth 40000 in
set_option maxHeartbeats 4000000 in
theorem lu_X12_weightIn_4 (n : Nat) (xs : Nat → Int32) (N d f : Nat) (M : mmM) (y1 : Int32) (y2 : Int32) : lp_X12_weightIn n xs N d (f + 1) 4 [some (.ref 60), some (.int y1), some (.int y2)] [] M =
  (if (mm_I M 60 26) ≤ y2 then
  some (some (.int y1), M)
  else
  ((mm_aI (mm_E n xs N d 180 [.int (mm_I M 77 10), .int y2] M)).bind fun p1 =>
      (if p1.1 = 0 then
      (lp_X12_weightIn n xs N d f 4 [some (.ref 60), some (.int (y1 + (0 : Int32))), some (.int (y2 + (1 : Int32)))] [] p1.2)
      else
      ((mm_aI (mm_E n xs N d 221 [.ref 60, .int y2, .int (0 : Int32)] p1.2)).bind fun p2 =>
        (lp_X12_weightIn n xs N d f 4 [some (.ref 60), some (.int (y1 + p2.1)), some (.int (y2 + (1 : Int32)))] [] p2.2))))) := by exact rfl
noncomputable def lp_X12_worthIn (n : Nat) (xs : Nat → Int32) (N d f t : Nat) : mmK := mm_lp (mm_Y n xs) (mm_E n xs N d) cd_X12_worthIn.1 cd_X12_worthIn.2.1 f t
set_option maxRecDepth 40000 in
set_option maxHeartbeats 4000000 in
theorem u_X12_worthIn (n : Nat) (xs : Nat → Int32) (N d : Nat) (M : mmM)  : mm_E n xs N (d + 1) 230 [.ref 60] M =
  (lp_X12_worthIn n xs N d N 4 [some (.ref 60), some (.int (0 : Int32)), some (.int (0 : Int32))] [] M) := by exact rfl
set_option maxRecDepth 40000 in
set_option maxHeartbeats 4000000 in
theorem lu_X12_worthIn_4 (n : Nat) (xs : Nat → Int32) (N d f : Nat) (M : mmM) (y1 : Int32) (y2 : Int32) : lp_X12_worthIn n xs N d (f + 1) 4 [some (.ref 60), some (.int y1), some (.int y2)] [] M =
  (if (mm_I M 60 26) ≤ y2 then
  some (some (.int y1), M)
  else
  ((mm_aI (mm_E n xs N d 180 [.int (mm_I M 77 10), .int y2] M)).bind fun p1 =>
      (if p1.1 = 0 then
      (lp_X12_worthIn n xs N d f 4 [some (.ref 60), some (.int (y1 + (0 : Int32))), some (.int (y2 + (1 : Int32)))] [] p1.2)
      else
      ((mm_aI (mm_E n xs N d 221 [.ref 60, .int y2, .int (1 : Int32)] p1.2)).bind fun p2 =>
        (lp_X12_worthIn n xs N d f 4 [some (.ref 60), some (.int (y1 + p2.1)), some (.int (y2 + (1 : Int32)))] [] p2.2))))) := by exact rfl
set_option maxRecDepth 40000 in
set_option maxHeartbeats 4000000 in
theorem u_X12_sinks (n : Nat) (xs : Nat → Int32) (N d : Nat) (M : mmM)  : mm_E n xs N (d + 1) 231 [.ref 60] M =
  (if (3 : Int32) = 0 then none else
    ((mm_aI (mm_E n xs N d 229 [.ref 60] M)).bind fun p1 =>
    (if (4 : Int32) = 0 then none else
    ((mm_aI (mm_E n xs N d 302 [.int (0 : Int32), .int ((((1 : Int32) + ((mm_I M 74 0) / (3 : Int32))) + (p1.1 / (4 : Int32))) - (mm_I p1.2 77 11))] p1.2)).bind fun p2 =>
      some (some (.int p2.1), p2.2))))) := by exact rfl
set_option maxRecDepth 40000 in
set_option maxHeartbeats 4000000 in
theorem u_X12_mayFall (n : Nat) (xs : Nat → Int32) (N d : Nat) (M : mmM)  : mm_E n xs N (d + 1) 232 [.ref 60] M =
  (if (mm_I M 77 8) = 0 then
    (if (mm_I M 77 10) = 0 then
        some (none, M)
        else
        some (none, (mm_wI (mm_wI M 77 10 (0 : Int32)) 77 15 ((mm_I M 77 15) + (1 : Int32)))))
    else
    some (none, M)) := by exact rfl
set_option maxRecDepth 40000 in
set_option maxHeartbeats 4000000 in
theorem u_X12_doorNow (n : Nat) (xs : Nat → Int32) (N d : Nat) (M : mmM)  : mm_E n xs N (d + 1) 233 [.ref 60] M =
  (if (2 : Int32) = 0 then none else
    ((mm_aV (mm_E n xs N d 232 [.ref 60] (mm_wI M 77 8 ((mm_I M 77 8) / (2 : Int32))))).bind fun p1 =>
      some (none, p1))) := by exact rfl
set_option maxRecDepth 40000 in
set_option maxHeartbeats 4000000 in
theorem u_X12_hourNow (n : Nat) (xs : Nat → Int32) (N d : Nat) (M : mmM)  : mm_E n xs N (d + 1) 234 [.ref 60] M =
  ((mm_aI (mm_E n xs N d 231 [.ref 60] M)).bind fun p1 =>
    ((mm_aI (mm_E n xs N d 225 [.int ((mm_I M 77 8) - p1.1)] p1.2)).bind fun p2 =>
    ((mm_aV (mm_E n xs N d 232 [.ref 60] (mm_wI p2.2 77 8 p2.1))).bind fun p3 =>
      some (none, p3)))) := by exact rfl
set_option maxRecDepth 40000 in
set_option maxHeartbeats 4000000 in
theorem u_X12_canFold (n : Nat) (xs : Nat → Int32) (N d : Nat) (M : mmM) (x1 : Int32) : mm_E n xs N (d + 1) 235 [.ref 60, .int x1] M =
  ((mm_aI (mm_E n xs N d 180 [.int (mm_I M 77 10), .int x1] M)).bind fun p1 =>
    (if p1.1 = 0 then
    ((mm_aI (mm_E n xs N d 221 [.ref 60, .int x1, .int (2 : Int32)] p1.2)).bind fun p2 =>
        (if (mm_I p1.2 77 8) < p2.1 then
        some (some (.int (0 : Int32)), p2.2)
        else
        some (some (.int (1 : Int32)), p2.2)))
    else
    some (some (.int (0 : Int32)), p1.2))) := by exact rfl
set_option maxRecDepth 40000 in
set_option maxHeartbeats 4000000 in
theorem u_X12_foldNow (n : Nat) (xs : Nat → Int32) (N d : Nat) (M : mmM) (x1 : Int32) : mm_E n xs N (d + 1) 236 [.ref 60, .int x1] M =
  ((mm_aI (mm_E n xs N d 221 [.ref 60, .int x1, .int (3 : Int32)] (mm_wI M 77 10 ((mm_I M 77 10) ||| ((1 : Int32) <<< (x1 &&& 31)))))).bind fun p1 =>
        ((mm_aI (mm_E n xs N d 225 [.int ((mm_I M 77 8) - p1.1)] p1.2)).bind fun p2 =>
        some (none, (mm_wI p2.2 77 8 p2.1)))) := by exact rfl
set_option maxRecDepth 40000 in
set_option maxHeartbeats 4000000 in
theorem u_X12_rule (n : Nat) (xs : Nat → Int32) (N d : Nat) (M : mmM) (x1 : Int32) : mm_E n xs N (d + 1) 237 [.ref 60, .int x1] M =
  (if (mm_I M 60 26) = 0 then
  some (some (.int (-1 : Int32)), M)
  else
  ((mm_aI (mm_E n xs N d 179 [.int x1, .int (0 : Int32), .int (3 : Int32)] M)).bind fun p1 =>
    (if p1.1 = 0 then
    some (some (.int (-1 : Int32)), p1.2)
    else
    (if x1 = (1 : Int32) then
      some (some (.int (mm_I p1.2 77 12)), p1.2)
      else
      (if x1 = (3 : Int32) then
        some (some (.int (mm_I p1.2 77 13)), p1.2)
        else
        (cond (mm_inb x1 4)
          (some (some (.int (mm_I p1.2 74 x1.toNatClampNeg)), p1.2)) none)))))) := by exact rfl
set_option maxRecDepth 40000 in
set_option maxHeartbeats 4000000 in
theorem u_X12_cook (n : Nat) (xs : Nat → Int32) (N d : Nat) (M : mmM) (x1 : Int32) (x2 : Int32) : mm_E n xs N (d + 1) 238 [.ref 60, .int x1, .int x2] M =
  ((mm_aI (mm_E n xs N d 222 [.ref 60, .int x1] M)).bind fun p1 =>
  (if p1.1 = 0 then
  some (some (.int (-1 : Int32)), p1.2)
  else
  ((mm_aI (mm_E n xs N d 179 [.int x2, .int (0 : Int32), .int (2 : Int32)] p1.2)).bind fun p2 =>
    (if p2.1 = 0 then
    some (some (.int (-1 : Int32)), p2.2)
    else
    (if x2 = 0 then
      (cond (mm_inb ((0 : Int32) + x1) 198)
        (some (some (.int (mm_I p2.2 77 (((0 : Int32) + x1).toNatClampNeg))), p2.2)) none)
      else
      (if x2 = (1 : Int32) then
        (cond (mm_inb (((2 : Int32) * x1) + (1 : Int32)) 8)
          (some (some (.int (mm_I p2.2 75 ((((2 : Int32) * x1) + (1 : Int32)).toNatClampNeg))), p2.2)) none)
        else
        (cond (mm_inb ((4 : Int32) + x1) 198)
          (some (some (.int (mm_I p2.2 77 (((4 : Int32) + x1).toNatClampNeg))), p2.2)) none))))))) := by exact rfl
set_option maxRecDepth 40000 in
set_option maxHeartbeats 4000000 in
theorem u_X12_minister (n : Nat) (xs : Nat → Int32) (N d : Nat) (M : mmM) (x1 : Int32) (x2 : Int32) : mm_E n xs N (d + 1) 239 [.ref 60, .int x1, .int x2] M =
  ((mm_aI (mm_E n xs N d 223 [.ref 60, .int x1] M)).bind fun p1 =>
  (if p1.1 = 0 then
  (if (1 : Int32) = (1 : Int32) then
    some (some (.int (0 : Int32)), (mm_wI p1.2 60 0 (1 : Int32)))
    else
    (if (4 : Int32) ≤ x2 then
      some (some (.int (((mm_I p1.2 77 10) >>> (x1 &&& 31)) &&& (1 : Int32))), (mm_wI p1.2 60 0 (1 : Int32)))
      else
      ((mm_aI (mm_E n xs N d 221 [.ref 60, .int x1, .int x2] (mm_wI p1.2 60 0 (1 : Int32)))).bind fun p2 =>
        some (some (.int p2.1), p2.2))))
  else
  ((mm_aI (mm_E n xs N d 179 [.int x2, .int (0 : Int32), .int (4 : Int32)] p1.2)).bind fun p3 =>
    (if p3.1 = 0 then
    (if (1 : Int32) = (1 : Int32) then
      some (some (.int (0 : Int32)), (mm_wI p3.2 60 0 (1 : Int32)))
      else
      (if (4 : Int32) ≤ x2 then
        some (some (.int (((mm_I p3.2 77 10) >>> (x1 &&& 31)) &&& (1 : Int32))), (mm_wI p3.2 60 0 (1 : Int32)))
        else
        ((mm_aI (mm_E n xs N d 221 [.ref 60, .int x1, .int x2] (mm_wI p3.2 60 0 (1 : Int32)))).bind fun p4 =>
          some (some (.int p4.1), p4.2))))
    else
    (if (0 : Int32) = (1 : Int32) then
      some (some (.int (0 : Int32)), (mm_wI p3.2 60 0 (0 : Int32)))
      else
      (if (4 : Int32) ≤ x2 then
        some (some (.int (((mm_I p3.2 77 10) >>> (x1 &&& 31)) &&& (1 : Int32))), (mm_wI p3.2 60 0 (0 : Int32)))
        else
        ((mm_aI (mm_E n xs N d 221 [.ref 60, .int x1, .int x2] (mm_wI p3.2 60 0 (0 : Int32)))).bind fun p5 =>
          some (some (.int p5.1), p5.2)))))))) := by exact rfl
set_option maxRecDepth 40000 in
set_option maxHeartbeats 4000000 in
theorem u_X12_law (n : Nat) (xs : Nat → Int32) (N d : Nat) (M : mmM) (x1 : Int32) : mm_E n xs N (d + 1) 240 [.ref 60, .int x1] M =
  ((mm_aI (mm_E n xs N d 179 [.int x1, .int (-1 : Int32), .int ((mm_I M 60 13) - (1 : Int32))] M)).bind fun p1 =>
  (if p1.1 = 0 then
  some (some (.int (0 : Int32)), p1.2)
  else
  some (some (.int (1 : Int32)), (mm_wI p1.2 60 29 x1)))) := by exact rfl
noncomputable def lp_X12_keep (n : Nat) (xs : Nat → Int32) (N d f t : Nat) : mmK := mm_lp (mm_Y n xs) (mm_E n xs N d) cd_X12_keep.1 cd_X12_keep.2.1 f t
set_option maxRecDepth 40000 in
set_option maxHeartbeats 4000000 in
theorem u_X12_keep (n : Nat) (xs : Nat → Int32) (N d : Nat) (M : mmM)  : mm_E n xs N (d + 1) 241 [.ref 60] M =
  (if (mm_I M 60 32) = (40 : Int32) then
  (lp_X12_keep n xs N d N 13 [some (.ref 60), some (.int (198 : Int32))] [] M)
  else
  (lp_X12_keep n xs N d N 54 [some (.ref 60), some (.int (0 : Int32))] [] M)) := by exact rfl
set_option maxRecDepth 40000 in
set_option maxHeartbeats 4000000 in
theorem lu_X12_keep_13 (n : Nat) (xs : Nat → Int32) (N d f : Nat) (M : mmM) (y1 : Int32) : lp_X12_keep n xs N d (f + 1) 13 [some (.ref 60), some (.int y1)] [] M =
  (if (7920 : Int32) ≤ y1 then
  (lp_X12_keep n xs N d f 54 [some (.ref 60), some (.int (0 : Int32))] [] (mm_wI M 60 32 ((mm_I M 60 32) - (1 : Int32))))
  else
  (cond (mm_inb y1 7920)
    (cond (mm_inb (y1 - (198 : Int32)) 7920 && Nat.ble 16 79)
      (lp_X12_keep n xs N d f 13 [some (.ref 60), some (.int (y1 + (1 : Int32)))] [] (mm_wI M 79 ((y1 - (198 : Int32)).toNatClampNeg) (mm_I M 79 y1.toNatClampNeg))) none) none)) := by exact rfl
set_option maxRecDepth 40000 in
set_option maxHeartbeats 4000000 in
theorem lu_X12_keep_54 (n : Nat) (xs : Nat → Int32) (N d f : Nat) (M : mmM) (y1 : Int32) : lp_X12_keep n xs N d (f + 1) 54 [some (.ref 60), some (.int y1)] [] M =
  (if (198 : Int32) ≤ y1 then
  some (none, (mm_wI M 60 32 ((mm_I M 60 32) + (1 : Int32))))
  else
  (cond (mm_inb y1 198)
    (cond (mm_inb (((198 : Int32) * (mm_I M 60 32)) + y1) 7920 && Nat.ble 16 79)
      (lp_X12_keep n xs N d f 54 [some (.ref 60), some (.int (y1 + (1 : Int32)))] [] (mm_wI M 79 ((((198 : Int32) * (mm_I M 60 32)) + y1).toNatClampNeg) (mm_I M 77 y1.toNatClampNeg))) none) none)) := by exact rfl
set_option maxRecDepth 40000 in
set_option maxHeartbeats 4000000 in
theorem u_X12_isRefused (n : Nat) (xs : Nat → Int32) (N d : Nat) (M : mmM) (x1 : Int32) : mm_E n xs N (d + 1) 242 [.ref 60, .int x1] M =
  (if x1 = (-1 : Int32) then
  (if x1 = (-1 : Int32) then
    some (some (.int (0 : Int32)), M)
    else
    some (some (.int (1 : Int32)), M))
  else
  (cond (mm_inb x1 5)
    (cond (mm_inb x1 5 && Nat.ble 16 78)
      (if x1 = (-1 : Int32) then
        some (some (.int (0 : Int32)), (mm_wI M 78 x1.toNatClampNeg ((mm_I M 78 x1.toNatClampNeg) + (1 : Int32))))
        else
        some (some (.int (1 : Int32)), (mm_wI M 78 x1.toNatClampNeg ((mm_I M 78 x1.toNatClampNeg) + (1 : Int32))))) none) none)) := by exact rfl
set_option maxRecDepth 40000 in
set_option maxHeartbeats 4000000 in
theorem u_X12_strokes (n : Nat) (xs : Nat → Int32) (N d : Nat) (M : mmM) (x1 : Int32) (x2 : Int32) : mm_E n xs N (d + 1) 243 [.ref 60, .int x1, .int x2] M =
  ((mm_aI (mm_E n xs N d 222 [.ref 60, .int x1] M)).bind fun p1 =>
  (if p1.1 = 0 then
  ((mm_aI (mm_E n xs N d 242 [.ref 60, .int (0 : Int32)] p1.2)).bind fun p2 =>
    (if p2.1 = 0 then
    ((mm_aV (mm_E n xs N d 241 [.ref 60] p2.2)).bind fun p3 =>
      ((mm_aV (mm_E n xs N d 228 [.ref 60, .int x1, .int x2] p3)).bind fun p4 =>
      some (some (.int (mm_I p4 77 8)), p4)))
    else
    some (some (.int (-1 : Int32)), p2.2)))
  else
  ((mm_aI (mm_E n xs N d 179 [.int x2, .int (1 : Int32), .int (40 : Int32)] p1.2)).bind fun p5 =>
    (if p5.1 = 0 then
    ((mm_aI (mm_E n xs N d 242 [.ref 60, .int (1 : Int32)] p5.2)).bind fun p6 =>
      (if p6.1 = 0 then
      ((mm_aV (mm_E n xs N d 241 [.ref 60] p6.2)).bind fun p7 =>
        ((mm_aV (mm_E n xs N d 228 [.ref 60, .int x1, .int x2] p7)).bind fun p8 =>
        some (some (.int (mm_I p8 77 8)), p8)))
      else
      some (some (.int (-1 : Int32)), p6.2)))
    else
    ((mm_aI (mm_E n xs N d 224 [.ref 60, .int x1] p5.2)).bind fun p9 =>
      (if x2 ≤ p9.1 then
      ((mm_aI (mm_E n xs N d 242 [.ref 60, .int (-1 : Int32)] p9.2)).bind fun p10 =>
        (if p10.1 = 0 then
        ((mm_aV (mm_E n xs N d 241 [.ref 60] p10.2)).bind fun p11 =>
          ((mm_aV (mm_E n xs N d 228 [.ref 60, .int x1, .int x2] p11)).bind fun p12 =>
          some (some (.int (mm_I p12 77 8)), p12)))
        else
        some (some (.int (-1 : Int32)), p10.2)))
      else
      ((mm_aI (mm_E n xs N d 242 [.ref 60, .int (3 : Int32)] p9.2)).bind fun p13 =>
        (if p13.1 = 0 then
        ((mm_aV (mm_E n xs N d 241 [.ref 60] p13.2)).bind fun p14 =>
          ((mm_aV (mm_E n xs N d 228 [.ref 60, .int x1, .int x2] p14)).bind fun p15 =>
          some (some (.int (mm_I p15 77 8)), p15)))
        else
        some (some (.int (-1 : Int32)), p13.2))))))))) := by exact rfl
set_option maxRecDepth 40000 in
set_option maxHeartbeats 4000000 in
theorem u_X12_fold (n : Nat) (xs : Nat → Int32) (N d : Nat) (M : mmM) (x1 : Int32) : mm_E n xs N (d + 1) 244 [.ref 60, .int x1] M =
  ((mm_aI (mm_E n xs N d 223 [.ref 60, .int x1] M)).bind fun p1 =>
  (if p1.1 = 0 then
  ((mm_aI (mm_E n xs N d 242 [.ref 60, .int (0 : Int32)] p1.2)).bind fun p2 =>
    (if p2.1 = 0 then
    ((mm_aV (mm_E n xs N d 241 [.ref 60] p2.2)).bind fun p3 =>
      ((mm_aV (mm_E n xs N d 236 [.ref 60, .int x1] p3)).bind fun p4 =>
      some (some (.int (mm_I p4 77 8)), p4)))
    else
    some (some (.int (-1 : Int32)), p2.2)))
  else
  ((mm_aI (mm_E n xs N d 180 [.int (mm_I p1.2 77 10), .int x1] p1.2)).bind fun p5 =>
      (if p5.1 = 0 then
      ((mm_aI (mm_E n xs N d 235 [.ref 60, .int x1] p5.2)).bind fun p6 =>
        (if p6.1 = 0 then
        ((mm_aI (mm_E n xs N d 242 [.ref 60, .int (3 : Int32)] p6.2)).bind fun p7 =>
          (if p7.1 = 0 then
          ((mm_aV (mm_E n xs N d 241 [.ref 60] p7.2)).bind fun p8 =>
            ((mm_aV (mm_E n xs N d 236 [.ref 60, .int x1] p8)).bind fun p9 =>
            some (some (.int (mm_I p9 77 8)), p9)))
          else
          some (some (.int (-1 : Int32)), p7.2)))
        else
        ((mm_aI (mm_E n xs N d 242 [.ref 60, .int (-1 : Int32)] p6.2)).bind fun p10 =>
          (if p10.1 = 0 then
          ((mm_aV (mm_E n xs N d 241 [.ref 60] p10.2)).bind fun p11 =>
            ((mm_aV (mm_E n xs N d 236 [.ref 60, .int x1] p11)).bind fun p12 =>
            some (some (.int (mm_I p12 77 8)), p12)))
          else
          some (some (.int (-1 : Int32)), p10.2)))))
      else
      ((mm_aI (mm_E n xs N d 242 [.ref 60, .int (2 : Int32)] p5.2)).bind fun p13 =>
        (if p13.1 = 0 then
        ((mm_aV (mm_E n xs N d 241 [.ref 60] p13.2)).bind fun p14 =>
          ((mm_aV (mm_E n xs N d 236 [.ref 60, .int x1] p14)).bind fun p15 =>
          some (some (.int (mm_I p15 77 8)), p15)))
        else
        some (some (.int (-1 : Int32)), p13.2))))))) := by exact rfl
set_option maxRecDepth 40000 in
set_option maxHeartbeats 4000000 in
theorem u_X12_sugar (n : Nat) (xs : Nat → Int32) (N d : Nat) (M : mmM)  : mm_E n xs N (d + 1) 245 [.ref 60] M =
  (if (mm_I M 60 26) = 0 then
  ((mm_aI (mm_E n xs N d 242 [.ref 60, .int (0 : Int32)] M)).bind fun p1 =>
    (if p1.1 = 0 then
    ((mm_aV (mm_E n xs N d 241 [.ref 60] p1.2)).bind fun p2 =>
      some (some (.int ((mm_I p2 77 11) + (1 : Int32))), (mm_wI (mm_wI p2 77 11 ((mm_I p2 77 11) + (1 : Int32))) 77 13 ((mm_I p2 77 13) - (2 : Int32)))))
    else
    some (some (.int (-1 : Int32)), p1.2)))
  else
  (if (mm_I M 77 11) = (9 : Int32) then
      ((mm_aI (mm_E n xs N d 242 [.ref 60, .int (2 : Int32)] M)).bind fun p3 =>
        (if p3.1 = 0 then
        ((mm_aV (mm_E n xs N d 241 [.ref 60] p3.2)).bind fun p4 =>
          some (some (.int ((mm_I p4 77 11) + (1 : Int32))), (mm_wI (mm_wI p4 77 11 ((mm_I p4 77 11) + (1 : Int32))) 77 13 ((mm_I p4 77 13) - (2 : Int32)))))
        else
        some (some (.int (-1 : Int32)), p3.2)))
      else
      (if (2 : Int32) ≤ (mm_I M 77 13) then
          ((mm_aI (mm_E n xs N d 242 [.ref 60, .int (-1 : Int32)] M)).bind fun p5 =>
            (if p5.1 = 0 then
            ((mm_aV (mm_E n xs N d 241 [.ref 60] p5.2)).bind fun p6 =>
              some (some (.int ((mm_I p6 77 11) + (1 : Int32))), (mm_wI (mm_wI p6 77 11 ((mm_I p6 77 11) + (1 : Int32))) 77 13 ((mm_I p6 77 13) - (2 : Int32)))))
            else
            some (some (.int (-1 : Int32)), p5.2)))
          else
          ((mm_aI (mm_E n xs N d 242 [.ref 60, .int (3 : Int32)] M)).bind fun p7 =>
            (if p7.1 = 0 then
            ((mm_aV (mm_E n xs N d 241 [.ref 60] p7.2)).bind fun p8 =>
              some (some (.int ((mm_I p8 77 11) + (1 : Int32))), (mm_wI (mm_wI p8 77 11 ((mm_I p8 77 11) + (1 : Int32))) 77 13 ((mm_I p8 77 13) - (2 : Int32)))))
            else
            some (some (.int (-1 : Int32)), p7.2)))))) := by exact rfl
set_option maxRecDepth 40000 in
set_option maxHeartbeats 4000000 in
theorem u_X12_door (n : Nat) (xs : Nat → Int32) (N d : Nat) (M : mmM)  : mm_E n xs N (d + 1) 246 [.ref 60] M =
  (if (mm_I M 60 26) = 0 then
  ((mm_aI (mm_E n xs N d 242 [.ref 60, .int (0 : Int32)] M)).bind fun p1 =>
    (if p1.1 = 0 then
    ((mm_aV (mm_E n xs N d 241 [.ref 60] p1.2)).bind fun p2 =>
      ((mm_aV (mm_E n xs N d 233 [.ref 60] p2)).bind fun p3 =>
      some (some (.int (mm_I p3 77 8)), p3)))
    else
    some (some (.int (-1 : Int32)), p1.2)))
  else
  ((mm_aI (mm_E n xs N d 242 [.ref 60, .int (-1 : Int32)] M)).bind fun p4 =>
    (if p4.1 = 0 then
    ((mm_aV (mm_E n xs N d 241 [.ref 60] p4.2)).bind fun p5 =>
      ((mm_aV (mm_E n xs N d 233 [.ref 60] p5)).bind fun p6 =>
      some (some (.int (mm_I p6 77 8)), p6)))
    else
    some (some (.int (-1 : Int32)), p4.2)))) := by exact rfl
