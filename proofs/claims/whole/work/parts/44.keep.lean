/-! the class keeps what was, and takes it back -/
section KE
variable {n : Nat} {xs : Nat → Int32} {N : Nat}
theorem s_hi {M : mmM} {a : Nat} (h : 87 ≤ a) : mm_s (mm_Y n xs) M a = M.1 a := by
  unfold mm_s
  have : Nat.blt a (mm_Y n xs).1 = false := by
    cases hh : Nat.blt a (mm_Y n xs).1 with
    | false => rfl
    | true =>
      have h2 : a < 87 := Nat.blt_eq.mp hh
      omega
  rw [this, cond_false]
theorem p_hi {M : mmM} {a k : Nat} (h : 87 ≤ a) : mm_p (mm_Y n xs) M a k = M.2.2.2.2.2 a k := by
  unfold mm_p mm_fx
  have : Nat.blt a (mm_Y n xs).1 = false := by
    cases hh : Nat.blt a (mm_Y n xs).1 with
    | false => rfl
    | true =>
      have h2 : a < 87 := Nat.blt_eq.mp hh
      omega
  rw [this, cond_false]
theorem p_39 {M : mmM} {k : Nat} : mm_p (mm_Y n xs) M 39 k = M.2.2.2.2.2 39 k := rfl
theorem f_39 {k : Nat} : mm_free (mm_Y n xs) 39 k = true := rfl
theorem f_hi {a k : Nat} (h : 87 ≤ a) : mm_free (mm_Y n xs) a k = true := by
  unfold mm_free mm_fx
  have : Nat.blt a (mm_Y n xs).1 = false := by
    cases hh : Nat.blt a (mm_Y n xs).1 with
    | false => rfl
    | true =>
      have h2 : a < 87 := Nat.blt_eq.mp hh
      omega
  rw [this, cond_false]
theorem up_n {α : Type} {f : Nat → Nat → α} {a k b j : Nat} {v : α} (h : b ≠ a) : mm_up f a k v b j = f b j := by
  unfold mm_up
  rw [if_neg h]
theorem up_k {α : Type} {f : Nat → Nat → α} {a k j : Nat} {v : α} (h : j ≠ k) : mm_up f a k v a j = f a j := by
  unfold mm_up
  rw [if_pos rfl, if_neg h]
theorem up_e {α : Type} {f : Nat → Nat → α} {a k : Nat} {v : α} : mm_up f a k v a k = v := by
  unfold mm_up
  rw [if_pos rfl, if_pos rfl]
theorem row_n {α : Type} {f : Nat → Nat → α} {a b : Nat} {r : Nat → α} (h : b ≠ a) : mm_row f a r b = f b := by
  unfold mm_row
  rw [if_neg h]
/-- the ring of bowls: where the next goes, how many, how many have been made -/
def WR (n : Nat) (xs : Nat → Int32) (M : mmM) (p z h : Nat) : Prop := mm_I M 38 2 = nI p ∧ p < 40 ∧ mm_I M 38 1 = nI z ∧ z ≤ 40 ∧ 87 ≤ mm_n M ∧ h ≤ 40 ∧ p ≤ h ∧ (z ≤ p ∨ h = 40) ∧ (∀ i, i < 40 → h ≤ i → mm_p (mm_Y n xs) M 39 i = none) ∧ (∀ i, i < h → ∃ o, mm_p (mm_Y n xs) M 39 i = some o ∧ BO n xs M o) ∧ ∀ i j oi oj, i < h → j < h → i ≠ j → mm_p (mm_Y n xs) M 39 i = some oi → mm_p (mm_Y n xs) M 39 j = some oj → oi + 3 ≤ oj ∨ oj + 3 ≤ oi
/-- one bowl more: what has changed -/
def KX (n : Nat) (xs : Nat → Int32) (M M1 : mmM) (p z h h1 o : Nat) : Prop := (∀ a, a ≠ 38 → (a < o ∨ o + 3 ≤ a) → mm_I M1 a = mm_I M a) ∧ mm_I M1 38 2 = nI ((p + 1) % 40) ∧ mm_I M1 38 1 = nI (min 40 (z + 1)) ∧ (∀ j, j ≤ 8 → mm_I M1 o j = mm_I M 35 j) ∧ (∀ j, j < 4 → mm_I M1 (o + 1) j = mm_I M 36 j ∧ mm_I M1 (o + 2) j = mm_I M 37 j) ∧ BO n xs M1 o ∧ mm_p (mm_Y n xs) M1 39 p = some o ∧ (∀ a k, a < mm_n M → (a ≠ 39 ∨ k ≠ p) → M1.2.2.2.2.2 a k = M.2.2.2.2.2 a k) ∧ (∀ a, a < mm_n M → M1.1 a = M.1 a) ∧ (∀ a, a < mm_n M → mm_J M1 a = mm_J M a) ∧ ((p < h ∧ h1 = h ∧ mm_p (mm_Y n xs) M 39 p = some o ∧ mm_n M1 = mm_n M ∧ mm_z M1 = mm_z M) ∨ (p = h ∧ h1 = h + 1 ∧ o = mm_n M ∧ mm_n M1 = mm_n M + 3 ∧ mm_z M1 = mm_z M + 19))
theorem rem40 {p : Nat} (hp : p < 1000) : nI p + 1 - (nI p + 1) / 40 * 40 = nI ((p + 1) % 40) := by
  rw [nI_1, show (40 : Int32) = nI 40 from rfl, pk_rem (by omega) (by omega) (by omega)]
theorem c400 : ((40 : Int32) = 0) = False := by simp
theorem asN_ref {a : Nat} {f : Option Nat → Option mmR} : mm_asN (.ref a) f = f (some a) := rfl
theorem asN_null {f : Option Nat → Option mmR} : mm_asN .null f = f none := rfl
theorem ob_cat : (mm_obj (.inl 0) 0 && Nat.ble (mm_cat []) 8) = true := rfl
def inB (M : mmM) : mmM := mm_wP (mm_new (mm_wP (mm_new (mm_new M (.inl 0) 11) (.inr (0, 4)) 4) (mm_n M) 9 (some (mm_n M + 1))) (.inr (0, 4)) 4) (mm_n M) 10 (some (mm_n M + 2))
theorem E_initB (d : Nat) {M : mmM} (h : 87 ≤ mm_n M) : mm_E n xs N (d + 1) 0 [.ref (mm_n M)] (mm_new M (.inl 0) 11) = some (none, inB M) := by
  rw [u_X0_init]
  have e1 : (Nat.ble 87 (mm_n (mm_new M (.inl 0) 11)) && (!decide ((4 : Int32) < 0) && Nat.ble (4 : Int32).toNatClampNeg 65536)) = true := by
    rw [show mm_n (mm_new M (.inl 0) 11) = mm_n M + 1 from rfl, mm_ble (by omega)]
    decide
  have sh : ∀ (P : mmM), P.1 (mm_n M) = .inl 0 → mm_obj (mm_s (mm_Y n xs) P (mm_n M)) 0 = true := by
    intro P hP
    rw [s_hi h, hP]
    rfl
  have a1 : (mm_new (mm_new M (.inl 0) 11) (.inr (0, (4 : Int32).toNatClampNeg)) (4 : Int32).toNatClampNeg).1 (mm_n M) = .inl 0 := by
    show mm_ups (mm_ups M.1 M.2.1 (.inl 0)) (M.2.1 + 1) _ M.2.1 = _
    unfold mm_ups
    rw [if_neg (by omega), if_pos rfl]
  have e3 : (Nat.ble 87 (mm_n (mm_wP (mm_new (mm_new M (.inl 0) 11) (.inr (0, (4 : Int32).toNatClampNeg)) (4 : Int32).toNatClampNeg) (mm_n M) 9 (some (mm_n (mm_new M (.inl 0) 11))))) && (!decide ((4 : Int32) < 0) && Nat.ble (4 : Int32).toNatClampNeg 65536)) = true := by
    rw [show mm_n (mm_wP (mm_new (mm_new M (.inl 0) 11) (.inr (0, (4 : Int32).toNatClampNeg)) (4 : Int32).toNatClampNeg) (mm_n M) 9 (some (mm_n (mm_new M (.inl 0) 11)))) = mm_n M + 2 from rfl, mm_ble (by omega)]
    decide
  have a2 : (mm_new (mm_wP (mm_new (mm_new M (.inl 0) 11) (.inr (0, (4 : Int32).toNatClampNeg)) (4 : Int32).toNatClampNeg) (mm_n M) 9 (some (mm_n (mm_new M (.inl 0) 11)))) (.inr (0, (4 : Int32).toNatClampNeg)) (4 : Int32).toNatClampNeg).1 (mm_n M) = .inl 0 := by
    show mm_ups (mm_ups (mm_ups M.1 M.2.1 (.inl 0)) (M.2.1 + 1) _) (M.2.1 + 1 + 1) _ M.2.1 = _
    unfold mm_ups
    rw [if_neg (by omega), if_neg (by omega), if_pos rfl]
  rw [e1, cond_true, sh _ a1, f_hi h, Bool.and_self, cond_true, e3, cond_true, sh _ a2, f_hi h, Bool.and_self, cond_true]
  rfl
/-- the memory with a new bowl in the ring -/
def nwB (M : mmM) (p : Nat) : mmM := mm_wP (inB M) 39 p (some (mm_n M))
theorem nwB_I (M : mmM) (p : Nat) {a : Nat} (h : a < mm_n M ∨ mm_n M + 3 ≤ a) : mm_I (nwB M p) a = mm_I M a := by
  show mm_row (mm_row (mm_row M.2.2.2.1 M.2.1 (fun _ => 0)) (M.2.1 + 1) (fun _ => 0)) (M.2.1 + 1 + 1) (fun _ => 0) a = M.2.2.2.1 a
  have h' : a < M.2.1 ∨ M.2.1 + 3 ≤ a := h
  rw [row_n (by omega), row_n (by omega), row_n (by omega)]
theorem nwB_J (M : mmM) (p : Nat) {a : Nat} (h : a < mm_n M) : mm_J (nwB M p) a = mm_J M a := by
  show mm_row (mm_row (mm_row M.2.2.2.2.1 M.2.1 (fun _ => 0)) (M.2.1 + 1) (fun _ => 0)) (M.2.1 + 1 + 1) (fun _ => 0) a = M.2.2.2.2.1 a
  unfold mm_row
  have h' : a < M.2.1 := h
  rw [if_neg (by omega), if_neg (by omega), if_neg (by omega)]
theorem nwB_s (M : mmM) (p : Nat) {a : Nat} (h : a < mm_n M) : (nwB M p).1 a = M.1 a := by
  show mm_ups (mm_ups (mm_ups M.1 M.2.1 _) (M.2.1 + 1) _) (M.2.1 + 1 + 1) _ a = M.1 a
  unfold mm_ups
  have h' : a < M.2.1 := h
  rw [if_neg (by omega), if_neg (by omega), if_neg (by omega)]
theorem nwB_P (M : mmM) (p : Nat) {a k : Nat} (h : a < mm_n M) (hk : a ≠ 39 ∨ k ≠ p) : (nwB M p).2.2.2.2.2 a k = M.2.2.2.2.2 a k := by
  show mm_up (mm_up (mm_row (mm_up (mm_row (mm_row M.2.2.2.2.2 M.2.1 (fun _ => none)) (M.2.1 + 1) (fun _ => none)) M.2.1 9 (some (M.2.1 + 1))) (M.2.1 + 1 + 1) (fun _ => none)) M.2.1 10 (some (M.2.1 + 2))) 39 p (some M.2.1) a k = _
  have h' : a < M.2.1 := h
  by_cases q : a = 39
  · subst q
    rw [up_k (by omega), up_n (by omega), row_n (by omega), up_n (by omega), row_n (by omega), row_n (by omega)]
  · rw [up_n q, up_n (by omega), row_n (by omega), up_n (by omega), row_n (by omega), row_n (by omega)]
theorem nwB_39 (M : mmM) (p : Nat) : mm_p (mm_Y n xs) (nwB M p) 39 p = some (mm_n M) := by
  rw [p_39]
  show mm_up _ 39 p _ 39 p = _
  unfold mm_up
  rw [if_pos rfl, if_pos rfl]
theorem nwB_BO {M : mmM} {p : Nat} (h : 87 ≤ mm_n M) : BO n xs (nwB M p) (mm_n M) := by
  have h' : 87 ≤ M.2.1 := h
  refine ⟨h, Nat.le_refl _, ?_, ?_, ?_, ?_, ?_⟩
  · rw [s_hi h]
    show mm_ups (mm_ups (mm_ups M.1 M.2.1 (.inl 0)) (M.2.1 + 1) _) (M.2.1 + 1 + 1) _ M.2.1 = _
    unfold mm_ups
    rw [if_neg (by omega), if_neg (by omega), if_pos rfl]
  · rw [s_hi (by omega)]
    show mm_ups (mm_ups (mm_ups M.1 M.2.1 (.inl 0)) (M.2.1 + 1) _) (M.2.1 + 1 + 1) _ (M.2.1 + 1) = _
    unfold mm_ups
    rw [if_neg (by omega), if_pos rfl]
  · rw [s_hi (by omega)]
    show mm_ups (mm_ups (mm_ups M.1 M.2.1 (.inl 0)) (M.2.1 + 1) _) (M.2.1 + 1 + 1) _ (M.2.1 + 2) = _
    unfold mm_ups
    rw [if_pos rfl]
  · rw [p_hi h]
    show mm_up (mm_up (mm_row (mm_up (mm_row (mm_row M.2.2.2.2.2 M.2.1 (fun _ => none)) (M.2.1 + 1) (fun _ => none)) M.2.1 9 (some (M.2.1 + 1))) (M.2.1 + 1 + 1) (fun _ => none)) M.2.1 10 (some (M.2.1 + 2))) 39 p (some M.2.1) M.2.1 9 = _
    rw [up_n (by omega), up_k (by decide), row_n (by omega), up_e]
  · rw [p_hi h]
    show mm_up (mm_up (mm_row (mm_up (mm_row (mm_row M.2.2.2.2.2 M.2.1 (fun _ => none)) (M.2.1 + 1) (fun _ => none)) M.2.1 9 (some (M.2.1 + 1))) (M.2.1 + 1 + 1) (fun _ => none)) M.2.1 10 (some (M.2.1 + 2))) 39 p (some M.2.1) M.2.1 10 = _
    rw [up_n (by omega), up_e]
/-- behind the copying: the two numbers -/
theorem keep_end (d : Nat) {M : mmM} {p z : Nat} (hp : p < 40) (hz : z ≤ 40) (h2 : mm_I M 38 2 = nI p) (h1 : mm_I M 38 1 = nI z) : (if (40 : Int32) = 0 then none else (mm_aI (mm_E n xs N (d + 1) 304 [.int 40, .int (mm_I M 38 1 + 1)] (mm_wI M 38 2 (mm_I M 38 2 + 1 - (mm_I M 38 2 + 1) / 40 * 40)))).bind fun p5 => some (none, mm_wI p5.2 38 1 p5.1)) = some ((none : Option Value), mm_wI (mm_wI M 38 2 (nI ((p + 1) % 40))) 38 1 (nI (min 40 (z + 1)))) := by
  simp only [c400, if_false]
  rw [h1, h2, rem40 (by omega), nI_1, E_min, ra_I, Option.bind_some, show (40 : Int32) = nI 40 from rfl, i_min_nI (by omega) (by omega)]
theorem E_keepX (d : Nat) {M : mmM} {p z h : Nat} (hW : WR n xs M p z h) : ∃ M1 h1 o, mm_E n xs N (d + 3) 52 [.ref 38, .ref 35] M = some (none, M1) ∧ KX n xs M M1 p z h h1 o := by
  obtain ⟨w1, w2, w3, w4, w5, w6, w7, w8, w9, w10, w11⟩ := hW
  have hlt : nI p < Int32.ofNat 40 := nI_lt (b := 40) w2 (by omega)
  rw [u_X6_keep_35, w1, if_neg (nI_pos (by omega)), if_pos hlt]
  simp only [mm_inb_nI w2 (by omega), mm_ble (show 16 ≤ 39 by omega), Bool.and_self, cond_true, nI_clamp (show p < 2 ^ 31 by omega)]
  by_cases q : p < h
  · obtain ⟨o, ho, hB⟩ := w10 p q
    obtain ⟨M1, e1, c1, c2, c3, c4, c5, c6, c7, c8⟩ := E_copyTo (n := n) (xs := xs) (N := N) (d + 1) hB
    have o1 := hB.1
    have e2 : mm_I M1 38 = mm_I M 38 := c6 38 (by omega)
    have m2 : mm_I M1 38 2 = nI p := by rw [e2]; exact w1
    have m1 : mm_I M1 38 1 = nI z := by rw [e2]; exact w3
    refine ⟨mm_wI (mm_wI M1 38 2 (nI ((p + 1) % 40))) 38 1 (nI (min 40 (z + 1))), h, o, ?_, ?_, ?_, ?_, ?_, ?_, ?_, ?_, ?_, ?_, fun a _ => congrFun c4 a, Or.inl ⟨q, rfl, ho, c2, c3⟩⟩
    · rw [ho, rv_some, asN_ref]
      dsimp only
      rw [asR_ref, hB.2.2.1, ob_cat, cond_true, e1, ra_V, Option.bind_some]
      exact keep_end (d + 1) w2 w4 m2 m1
    · intro a ha hao
      rw [I_wn ha, I_wn ha]
      exact c6 a hao
    · rw [I_w, if_pos rfl, if_neg (by decide), I_w, if_pos rfl, if_pos rfl]
    · rw [I_w, if_pos rfl, if_pos rfl]
    · intro j hj
      rw [I_wn (by omega), I_wn (by omega)]
      exact c7 j hj
    · intro j hj
      rw [I_wn (by omega), I_wn (by omega), I_wn (by omega), I_wn (by omega)]
      exact c8 j hj
    · obtain ⟨b1, b2, b3, b4, b5, b6, b7⟩ := hB
      refine ⟨b1, by rw [show mm_n (mm_wI (mm_wI M1 38 2 (nI ((p + 1) % 40))) 38 1 (nI (min 40 (z + 1)))) = mm_n M1 from rfl, show mm_n M1 = mm_n M from c2]; exact b2, ?_, ?_, ?_, ?_, ?_⟩
      · rw [s_hi b1] at b3 ⊢; exact (congrFun c1 o).trans b3
      · rw [s_hi (by omega)] at b4 ⊢; exact (congrFun c1 _).trans b4
      · rw [s_hi (by omega)] at b5 ⊢; exact (congrFun c1 _).trans b5
      · rw [p_hi b1] at b6 ⊢; exact (congrFun (congrFun c5 o) 9).trans b6
      · rw [p_hi b1] at b7 ⊢; exact (congrFun (congrFun c5 o) 10).trans b7
    · rw [p_39] at ho ⊢; exact (congrFun (congrFun c5 39) p).trans ho
    · intro a k _ _; exact congrFun (congrFun c5 a) k
    · intro a _; exact congrFun c1 a
  · have ph : p = h := by omega
    have hnone := w9 p w2 (by omega)
    have hB := nwB_BO (n := n) (xs := xs) (M := M) (p := p) w5
    obtain ⟨M1, e1, c1, c2, c3, c4, c5, c6, c7, c8⟩ := E_copyTo (n := n) (xs := xs) (N := N) (d + 1) hB
    have w5' : 87 ≤ M.2.1 := w5
    have e38 : mm_I (nwB M p) 38 = mm_I M 38 := nwB_I M p (by omega)
    have e2 : mm_I M1 38 = mm_I M 38 := (c6 38 (by omega)).trans e38
    have m2 : mm_I M1 38 2 = nI p := by rw [e2]; exact w1
    have m1 : mm_I M1 38 1 = nI z := by rw [e2]; exact w3
    have ei := E_initB (n := n) (xs := xs) (N := N) (d + 1) w5
    refine ⟨mm_wI (mm_wI M1 38 2 (nI ((p + 1) % 40))) 38 1 (nI (min 40 (z + 1))), h + 1, mm_n M, ?_, ?_, ?_, ?_, ?_, ?_, ?_, ?_, ?_, ?_, ?_, Or.inr ⟨ph, rfl, rfl, c2, c3⟩⟩
    · rw [hnone, rv_none, asN_null]
      dsimp only
      have so : mm_s (mm_Y n xs) (mm_new M (.inl 0) 11) (mm_n M) = .inl 0 := by
        rw [s_hi w5]
        show mm_ups M.1 M.2.1 (.inl 0) M.2.1 = _
        unfold mm_ups
        rw [if_pos rfl]
      have si : mm_s (mm_Y n xs) (inB M) (mm_n M) = .inl 0 := hB.2.2.1
      have i38 : mm_I (inB M) 38 2 = nI p := by
        have : mm_I (inB M) 38 = mm_I M 38 := nwB_I M p (by omega)
        rw [this, w1]
      rw [mm_ble w5, cond_true, so, show (mm_obj (.inl 0) 0 && Nat.ble (mm_cat [.ref (mm_n M), .int (nI p), .ref 39]) 8) = true from rfl, cond_true, ei, ra_V, Option.bind_some, si, i38, f_39, mm_ble (show 16 ≤ mm_n M by omega)]
      simp only [obj00, Bool.and_self, mm_inb_nI w2 (by omega), cond_true, nI_clamp (show p < 2 ^ 31 by omega)]
      rw [show mm_wP (inB M) 39 p (some (mm_n M)) = nwB M p from rfl, nwB_39, rv_some, asR_ref, hB.2.2.1, ob_cat, cond_true, e1, ra_V, Option.bind_some]
      exact keep_end (d + 1) w2 w4 m2 m1
    · intro a ha hao
      rw [I_wn ha, I_wn ha, c6 a hao]
      exact nwB_I M p hao
    · rw [I_w, if_pos rfl, if_neg (by decide), I_w, if_pos rfl, if_pos rfl]
    · rw [I_w, if_pos rfl, if_pos rfl]
    · intro j hj
      rw [I_wn (by omega), I_wn (by omega), c7 j hj, nwB_I M p (by omega)]
    · intro j hj
      rw [I_wn (by omega), I_wn (by omega), I_wn (by omega), I_wn (by omega), (c8 j hj).1, (c8 j hj).2, nwB_I M p (by omega), nwB_I M p (by omega)]
      exact ⟨rfl, rfl⟩
    · obtain ⟨b1, b2, b3, b4, b5, b6, b7⟩ := hB
      refine ⟨b1, by rw [show mm_n (mm_wI (mm_wI M1 38 2 (nI ((p + 1) % 40))) 38 1 (nI (min 40 (z + 1)))) = mm_n M1 from rfl, show mm_n M1 = mm_n (nwB M p) from c2]; exact b2, ?_, ?_, ?_, ?_, ?_⟩
      · rw [s_hi b1] at b3 ⊢; exact (congrFun c1 _).trans b3
      · rw [s_hi (by omega)] at b4 ⊢; exact (congrFun c1 _).trans b4
      · rw [s_hi (by omega)] at b5 ⊢; exact (congrFun c1 _).trans b5
      · rw [p_hi b1] at b6 ⊢; exact (congrFun (congrFun c5 _) 9).trans b6
      · rw [p_hi b1] at b7 ⊢; exact (congrFun (congrFun c5 _) 10).trans b7
    · have := nwB_39 (n := n) (xs := xs) M p
      rw [p_39] at this ⊢
      exact (congrFun (congrFun c5 39) p).trans this
    · intro a k ha hk; exact (congrFun (congrFun c5 a) k).trans (nwB_P M p ha hk)
    · intro a ha; exact (congrFun c1 a).trans (nwB_s M p ha)
    · intro a ha
      exact (congrFun c4 a).trans (nwB_J M p ha)
end KE
