def cpF (o s k : Nat) (M : mmM) : mmM := mm_wI M o k (mm_I M s k)
set_option maxRecDepth 40000 in
set_option maxHeartbeats 4000000 in
theorem u_X0_copyTo (n : Nat) (xs : Nat → Int32) (N d : Nat) (M : mmM) (x0 : Nat) : mm_E n xs N (d + 1) 3 [.ref x0, .ref 35] M =
  (cond (mm_obj (mm_s (mm_Y n xs) M x0) 0)
  (cond (mm_obj (mm_s (mm_Y n xs) M x0) 0)
    (cond (mm_obj (mm_s (mm_Y n xs) M x0) 0)
      (cond (mm_obj (mm_s (mm_Y n xs) M x0) 0)
        (cond (mm_obj (mm_s (mm_Y n xs) M x0) 0)
          (cond (mm_obj (mm_s (mm_Y n xs) M x0) 0)
            (cond (mm_obj (mm_s (mm_Y n xs) M x0) 0)
              (cond (mm_obj (mm_s (mm_Y n xs) M x0) 0)
                (cond (mm_obj (mm_s (mm_Y n xs) M x0) 0)
                  (cond (mm_obj (mm_s (mm_Y n xs) M x0) 0)
                    (cond (mm_obj (mm_s (mm_Y n xs) M x0) 0)
                      (mm_asR (mm_rv (mm_p (mm_Y n xs) M x0 9)) fun o1 => (match mm_s (mm_Y n xs) M o1 with
                        | .inl _ => none
                        | .inr q2 => cond (Nat.ble (q2.1 + 1) 6 && (!Nat.beq q2.1 2 || Nat.blt o1 16)) (mm_asR (mm_rv (mm_p (mm_Y n xs) M x0 9)) fun o3 => ((mm_arr (mm_s (mm_Y n xs) M o3) 0).bind fun n4 => (cond (Nat.ble (mm_cat []) 8 && (Nat.ble 16 36 && (Nat.ble 16 o3 && (!decide (Int32.ofNat q2.2 < 0) && (!decide ((0 : Int32) < 0) && (!decide ((0 : Int32) < 0) && (Nat.ble ((0 : Int32).toNatClampNeg + (Int32.ofNat q2.2).toNatClampNeg) 4 && Nat.ble ((0 : Int32).toNatClampNeg + (Int32.ofNat q2.2).toNatClampNeg) n4)))))))
                          (cond (mm_obj (mm_s (mm_Y n xs) M x0) 0)
                            (cond (mm_obj (mm_s (mm_Y n xs) M x0) 0)
                              (mm_asR (mm_rv (mm_p (mm_Y n xs) M x0 10)) fun o5 => (match mm_s (mm_Y n xs) M o5 with
                                | .inl _ => none
                                | .inr q6 => cond (Nat.ble (q6.1 + 1) 6 && (!Nat.beq q6.1 2 || Nat.blt o5 16)) (mm_asR (mm_rv (mm_p (mm_Y n xs) M x0 10)) fun o7 => ((mm_arr (mm_s (mm_Y n xs) M o7) 0).bind fun n8 => (cond (Nat.ble (mm_cat []) 8 && (Nat.ble 16 37 && (Nat.ble 16 o7 && (!decide (Int32.ofNat q6.2 < 0) && (!decide ((0 : Int32) < 0) && (!decide ((0 : Int32) < 0) && (Nat.ble ((0 : Int32).toNatClampNeg + (Int32.ofNat q6.2).toNatClampNeg) 4 && Nat.ble ((0 : Int32).toNatClampNeg + (Int32.ofNat q6.2).toNatClampNeg) n8)))))))
                                  (some (none, (mm_wR (mm_wR (cpF x0 35 8 (cpF x0 35 7 (cpF x0 35 6 (cpF x0 35 5 (cpF x0 35 4 (cpF x0 35 3 (cpF x0 35 2 (cpF x0 35 1 (cpF x0 35 0 M))))))))) o3 (va_cpy (mm_I (cpF x0 35 8 (cpF x0 35 7 (cpF x0 35 6 (cpF x0 35 5 (cpF x0 35 4 (cpF x0 35 3 (cpF x0 35 2 (cpF x0 35 1 (cpF x0 35 0 M))))))))) 36) (mm_I (cpF x0 35 8 (cpF x0 35 7 (cpF x0 35 6 (cpF x0 35 5 (cpF x0 35 4 (cpF x0 35 3 (cpF x0 35 2 (cpF x0 35 1 (cpF x0 35 0 M))))))))) o3) (0 : Int32).toNatClampNeg (0 : Int32).toNatClampNeg (Int32.ofNat q2.2).toNatClampNeg)) o7 (va_cpy (mm_I (mm_wR (cpF x0 35 8 (cpF x0 35 7 (cpF x0 35 6 (cpF x0 35 5 (cpF x0 35 4 (cpF x0 35 3 (cpF x0 35 2 (cpF x0 35 1 (cpF x0 35 0 M))))))))) o3 (va_cpy (mm_I (cpF x0 35 8 (cpF x0 35 7 (cpF x0 35 6 (cpF x0 35 5 (cpF x0 35 4 (cpF x0 35 3 (cpF x0 35 2 (cpF x0 35 1 (cpF x0 35 0 M))))))))) 36) (mm_I (cpF x0 35 8 (cpF x0 35 7 (cpF x0 35 6 (cpF x0 35 5 (cpF x0 35 4 (cpF x0 35 3 (cpF x0 35 2 (cpF x0 35 1 (cpF x0 35 0 M))))))))) o3) (0 : Int32).toNatClampNeg (0 : Int32).toNatClampNeg (Int32.ofNat q2.2).toNatClampNeg)) 37) (mm_I (mm_wR (cpF x0 35 8 (cpF x0 35 7 (cpF x0 35 6 (cpF x0 35 5 (cpF x0 35 4 (cpF x0 35 3 (cpF x0 35 2 (cpF x0 35 1 (cpF x0 35 0 M))))))))) o3 (va_cpy (mm_I (cpF x0 35 8 (cpF x0 35 7 (cpF x0 35 6 (cpF x0 35 5 (cpF x0 35 4 (cpF x0 35 3 (cpF x0 35 2 (cpF x0 35 1 (cpF x0 35 0 M))))))))) 36) (mm_I (cpF x0 35 8 (cpF x0 35 7 (cpF x0 35 6 (cpF x0 35 5 (cpF x0 35 4 (cpF x0 35 3 (cpF x0 35 2 (cpF x0 35 1 (cpF x0 35 0 M))))))))) o3) (0 : Int32).toNatClampNeg (0 : Int32).toNatClampNeg (Int32.ofNat q2.2).toNatClampNeg)) o7) (0 : Int32).toNatClampNeg (0 : Int32).toNatClampNeg (Int32.ofNat q6.2).toNatClampNeg)))) none))) none)) none) none) none))) none)) none) none) none) none) none) none) none) none) none) none) none) := by exact rfl
set_option maxRecDepth 40000 in
set_option maxHeartbeats 4000000 in
theorem u_X0_copyOf (n : Nat) (xs : Nat → Int32) (N d : Nat) (M : mmM) (x1 : Nat) : mm_E n xs N (d + 1) 3 [.ref 35, .ref x1] M =
  (cond (mm_obj (mm_s (mm_Y n xs) M x1) 0)
  (cond (mm_obj (mm_s (mm_Y n xs) M x1) 0)
    (cond (mm_obj (mm_s (mm_Y n xs) M x1) 0)
      (cond (mm_obj (mm_s (mm_Y n xs) M x1) 0)
        (cond (mm_obj (mm_s (mm_Y n xs) M x1) 0)
          (cond (mm_obj (mm_s (mm_Y n xs) M x1) 0)
            (cond (mm_obj (mm_s (mm_Y n xs) M x1) 0)
              (cond (mm_obj (mm_s (mm_Y n xs) M x1) 0)
                (cond (mm_obj (mm_s (mm_Y n xs) M x1) 0)
                  (cond (mm_obj (mm_s (mm_Y n xs) M x1) 0)
                    (mm_asR (mm_rv (mm_p (mm_Y n xs) M x1 9)) fun o1 => ((mm_arr (mm_s (mm_Y n xs) M o1) 0).bind fun n2 => (cond (Nat.ble (mm_cat []) 8 && (Nat.ble 16 o1 && (Nat.ble 16 36 && (!decide (Int32.ofNat 4 < 0) && (!decide ((0 : Int32) < 0) && (!decide ((0 : Int32) < 0) && (Nat.ble ((0 : Int32).toNatClampNeg + (Int32.ofNat 4).toNatClampNeg) n2 && Nat.ble ((0 : Int32).toNatClampNeg + (Int32.ofNat 4).toNatClampNeg) 4)))))))
                      (cond (mm_obj (mm_s (mm_Y n xs) M x1) 0)
                        (mm_asR (mm_rv (mm_p (mm_Y n xs) M x1 10)) fun o3 => ((mm_arr (mm_s (mm_Y n xs) M o3) 0).bind fun n4 => (cond (Nat.ble (mm_cat []) 8 && (Nat.ble 16 o3 && (Nat.ble 16 37 && (!decide (Int32.ofNat 4 < 0) && (!decide ((0 : Int32) < 0) && (!decide ((0 : Int32) < 0) && (Nat.ble ((0 : Int32).toNatClampNeg + (Int32.ofNat 4).toNatClampNeg) n4 && Nat.ble ((0 : Int32).toNatClampNeg + (Int32.ofNat 4).toNatClampNeg) 4)))))))
                          (some (none, (mm_wR (mm_wR (cpF 35 x1 8 (cpF 35 x1 7 (cpF 35 x1 6 (cpF 35 x1 5 (cpF 35 x1 4 (cpF 35 x1 3 (cpF 35 x1 2 (cpF 35 x1 1 (cpF 35 x1 0 M))))))))) 36 (va_cpy (mm_I (cpF 35 x1 8 (cpF 35 x1 7 (cpF 35 x1 6 (cpF 35 x1 5 (cpF 35 x1 4 (cpF 35 x1 3 (cpF 35 x1 2 (cpF 35 x1 1 (cpF 35 x1 0 M))))))))) o1) (mm_I (cpF 35 x1 8 (cpF 35 x1 7 (cpF 35 x1 6 (cpF 35 x1 5 (cpF 35 x1 4 (cpF 35 x1 3 (cpF 35 x1 2 (cpF 35 x1 1 (cpF 35 x1 0 M))))))))) 36) (0 : Int32).toNatClampNeg (0 : Int32).toNatClampNeg (Int32.ofNat 4).toNatClampNeg)) 37 (va_cpy (mm_I (mm_wR (cpF 35 x1 8 (cpF 35 x1 7 (cpF 35 x1 6 (cpF 35 x1 5 (cpF 35 x1 4 (cpF 35 x1 3 (cpF 35 x1 2 (cpF 35 x1 1 (cpF 35 x1 0 M))))))))) 36 (va_cpy (mm_I (cpF 35 x1 8 (cpF 35 x1 7 (cpF 35 x1 6 (cpF 35 x1 5 (cpF 35 x1 4 (cpF 35 x1 3 (cpF 35 x1 2 (cpF 35 x1 1 (cpF 35 x1 0 M))))))))) o1) (mm_I (cpF 35 x1 8 (cpF 35 x1 7 (cpF 35 x1 6 (cpF 35 x1 5 (cpF 35 x1 4 (cpF 35 x1 3 (cpF 35 x1 2 (cpF 35 x1 1 (cpF 35 x1 0 M))))))))) 36) (0 : Int32).toNatClampNeg (0 : Int32).toNatClampNeg (Int32.ofNat 4).toNatClampNeg)) o3) (mm_I (mm_wR (cpF 35 x1 8 (cpF 35 x1 7 (cpF 35 x1 6 (cpF 35 x1 5 (cpF 35 x1 4 (cpF 35 x1 3 (cpF 35 x1 2 (cpF 35 x1 1 (cpF 35 x1 0 M))))))))) 36 (va_cpy (mm_I (cpF 35 x1 8 (cpF 35 x1 7 (cpF 35 x1 6 (cpF 35 x1 5 (cpF 35 x1 4 (cpF 35 x1 3 (cpF 35 x1 2 (cpF 35 x1 1 (cpF 35 x1 0 M))))))))) o1) (mm_I (cpF 35 x1 8 (cpF 35 x1 7 (cpF 35 x1 6 (cpF 35 x1 5 (cpF 35 x1 4 (cpF 35 x1 3 (cpF 35 x1 2 (cpF 35 x1 1 (cpF 35 x1 0 M))))))))) 36) (0 : Int32).toNatClampNeg (0 : Int32).toNatClampNeg (Int32.ofNat 4).toNatClampNeg)) 37) (0 : Int32).toNatClampNeg (0 : Int32).toNatClampNeg (Int32.ofNat 4).toNatClampNeg)))) none))) none) none))) none) none) none) none) none) none) none) none) none) none) := by exact rfl
set_option maxRecDepth 40000 in
set_option maxHeartbeats 4000000 in
theorem u_X0_init (n : Nat) (xs : Nat → Int32) (N d : Nat) (M : mmM) (x0 : Nat) : mm_E n xs N (d + 1) 0 [.ref x0] M =
  (cond (Nat.ble 87 (mm_n M) && (!decide ((4 : Int32) < 0) && Nat.ble (4 : Int32).toNatClampNeg 65536))
  (cond (mm_obj (mm_s (mm_Y n xs) (mm_new M (.inr (0, (4 : Int32).toNatClampNeg)) (4 : Int32).toNatClampNeg) x0) 0 && mm_free (mm_Y n xs) x0 9)
    (cond (Nat.ble 87 (mm_n (mm_wP (mm_new M (.inr (0, (4 : Int32).toNatClampNeg)) (4 : Int32).toNatClampNeg) x0 9 (some (mm_n M)))) && (!decide ((4 : Int32) < 0) && Nat.ble (4 : Int32).toNatClampNeg 65536))
      (cond (mm_obj (mm_s (mm_Y n xs) (mm_new (mm_wP (mm_new M (.inr (0, (4 : Int32).toNatClampNeg)) (4 : Int32).toNatClampNeg) x0 9 (some (mm_n M))) (.inr (0, (4 : Int32).toNatClampNeg)) (4 : Int32).toNatClampNeg) x0) 0 && mm_free (mm_Y n xs) x0 10)
        (some (none, (mm_wP (mm_new (mm_wP (mm_new M (.inr (0, (4 : Int32).toNatClampNeg)) (4 : Int32).toNatClampNeg) x0 9 (some (mm_n M))) (.inr (0, (4 : Int32).toNatClampNeg)) (4 : Int32).toNatClampNeg) x0 10 (some (mm_n (mm_wP (mm_new M (.inr (0, (4 : Int32).toNatClampNeg)) (4 : Int32).toNatClampNeg) x0 9 (some (mm_n M)))))))) none) none) none) none) := by exact rfl
