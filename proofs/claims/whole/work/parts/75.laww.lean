def topv : List Int → Int
  | v :: _ => v
  | [] => 0
/-- what a law is worth: clauses of a test and a sum -/
def lawV (e : Nat → Int) : List (List Int32 × List Int32) → Int
  | [] => 0
  | q :: r => if q.1 = [] then topv (runL e q.2 []) else if topv (runL e q.1 []) = 0 then lawV e r else topv (runL e q.2 [])
def WFL (L : List (List Int32 × List Int32)) : Prop := ∀ q, q ∈ L → (q.1 = [] ∨ tyR q.1 [] = some [true]) ∧ tyR q.2 [] = some [false]
/-- a law as the class writes it -/
def encL : List (List Int32 × List Int32) → List Int32
  | [] => []
  | q :: r => q.1 ++ ((if q.1 = [] then [] else [-63]) ++ (q.2 ++ (-59 :: encL r)))
def RC (g : Nat → Int32) (p : Nat) : List Int32 → Prop
  | [] => True
  | t :: r => g p = t ∧ RC g (p + 1) r
theorem RC_app {g : Nat → Int32} : ∀ {a b : List Int32} {p : Nat}, RC g p (a ++ b) → RC g p a ∧ RC g (p + a.length) b
  | [], _, _, h => ⟨trivial, h⟩
  | t :: a, b, p, h => by
    obtain ⟨h1, h2⟩ := h
    obtain ⟨h3, h4⟩ := RC_app (a := a) h2
    exact ⟨⟨h1, h3⟩, by rw [List.length_cons, show p + (a.length + 1) = p + 1 + a.length from by omega]; exact h4⟩
theorem TC_ne {t : Int32} {ts ts' : List Bool} (h : TC t ts ts') : t ≠ -59 ∧ t ≠ -63 := by
  have e1 : (-59 : Int32).toInt = -59 := by decide
  have e2 : (-63 : Int32).toInt = -63 := by decide
  rcases h with ⟨h1, _⟩ | ⟨_, _, h3⟩ | ⟨h, _⟩ | ⟨h, _⟩ | ⟨h, _⟩ | ⟨h, _⟩
  · exact ⟨fun w => by rw [w] at h1; omega, fun w => by rw [w] at h1; omega⟩
  · rcases h3 with g | g | g | g | g | g <;> subst g <;> decide
  · subst h; decide
  · rcases h with g | g | g | g <;> subst g <;> decide
  · rcases h with g | g | g <;> subst g <;> decide
  · rcases h with g | g <;> subst g <;> decide
theorem tyR_ne {ts' : List Bool} : ∀ {l : List Int32} {ts : List Bool}, tyR l ts = some ts' → ∀ t, t ∈ l → t ≠ -59
  | [], _, _, t, ht => by cases ht
  | a :: l, ts, h, t, ht => by
    obtain ⟨_, u, h1, h2⟩ := tyR_c h
    rcases List.mem_cons.mp ht with w | w
    · rw [w]; exact (TC_ne h1).1
    · exact tyR_ne h2 t w
theorem OKS_1 {b : Bool} {st : List Int} (h : OKS [b] st) : ∃ v, st = [v] := by
  obtain ⟨v, s, rfl, _, _, h3⟩ := OKS_c h
  cases s with
  | nil => exact ⟨v, rfl⟩
  | cons _ _ => exact h3.elim
/-- the chosen law's cell -/
def KLX (n : Nat) (xs : Nat → Int32) (M : mmM) (b len : Nat) (g : Nat → Int32) (j : Nat) : Prop := mm_I M 25 2 = nI j ∧ j < 4 ∧ mm_p (mm_Y n xs) M 26 j = some b ∧ (16 ≤ b ∧ b ≠ 25 ∧ b ≠ 31) ∧ mm_s (mm_Y n xs) M b = .inr (0, len) ∧ mm_I M b = g
theorem KLX.px {n : Nat} {xs : Nat → Int32} {M M' : mmM} {b len : Nat} {g : Nat → Int32} {j : Nat} (h : KLX n xs M b len g j) (q : PX M M') : KLX n xs M' b len g j := by
  obtain ⟨h1, h2, h3, h4, h5, h6⟩ := h
  refine ⟨(q.2.2.2.2.2.2 2 (by decide)).trans h1, h2, ?_, h4, ?_, (q.2.2.2.2.2.1 b h4.2.1 h4.2.2).trans h6⟩
  · rw [← h3]; unfold mm_p; rw [q.2.2.2.2.1]
  · rw [← h5]; unfold mm_s; rw [q.1]
theorem i_hiI {n : Nat} {xs : Nat → Int32} {M : mmM} {b k : Nat} (h : 16 ≤ b) : mm_i (mm_Y n xs) M b k = mm_I M b k := by
  unfold mm_i
  have : Nat.blt b 16 = false := by
    cases hh : Nat.blt b 16 with
    | false => rfl
    | true => have := Nat.ble_eq.mp hh; omega
  rw [this]; rfl
section LW
variable {n : Nat} {xs : Nat → Int32} {N : Nat}
theorem wrow {b len j p f : Nat} {g : Nat → Int32} {M : mmM} {y7 : Int32} (h : KLX n xs M b len g j) (hp : p < len) (hlen : len < 2 ^ 31) (d : Nat) : lp_X4_worth n xs N d (f + 1) 79 [some (.ref 25), none, none, none, none, none, none, some (.int y7), some (.int (nI len)), some (.int (nI p)), none] [] M =
    (if y7 = 0 then
        (if g p = (-59 : Int32) then
          ((mm_aI (mm_E n xs N d 41 [.ref 25] M)).bind fun p5 => some (some (.int p5.1), p5.2))
          else
          (if g p = (-63 : Int32) then
            ((mm_aI (mm_E n xs N d 41 [.ref 25] M)).bind fun p6 =>
              (if p6.1 = 0 then
              (lp_X4_worth n xs N d f 79 [some (.ref 25), none, none, none, none, none, none, some (.int (1 : Int32)), some (.int (nI len)), some (.int (nI (p + 1))), none] [] p6.2)
              else
              (lp_X4_worth n xs N d f 79 [some (.ref 25), none, none, none, none, none, none, some (.int (0 : Int32)), some (.int (nI len)), some (.int (nI (p + 1))), none] [] p6.2)))
            else
            (if g p < 0 then
              ((mm_aV (mm_E n xs N d 42 [.ref 25, .int (-(g p))] M)).bind fun p7 =>
                (lp_X4_worth n xs N d f 79 [some (.ref 25), none, none, none, none, none, none, some (.int y7), some (.int (nI len)), some (.int (nI (p + 1))), none] [] p7))
              else
              ((mm_aV (mm_E n xs N d 40 [.ref 25, .long ((g p).toInt64)] M)).bind fun p8 =>
                (lp_X4_worth n xs N d f 79 [some (.ref 25), none, none, none, none, none, none, some (.int y7), some (.int (nI len)), some (.int (nI (p + 1))), none] [] p8)))))
        else
        (if g p = (-59 : Int32) then
          (lp_X4_worth n xs N d f 79 [some (.ref 25), none, none, none, none, none, none, some (.int (0 : Int32)), some (.int (nI len)), some (.int (nI (p + 1))), none] [] M)
          else
          (lp_X4_worth n xs N d f 79 [some (.ref 25), none, none, none, none, none, none, some (.int (1 : Int32)), some (.int (nI len)), some (.int (nI (p + 1))), none] [] M))) := by
  obtain ⟨h1, h2, h3, h4, h5, h6⟩ := h
  rw [lu_X4_worth_79, if_neg (show ¬ nI len ≤ nI p from fun w => by have := (nI_leI (by omega) (by omega)).mp w; omega), h1, mm_inb_nI h2 (by omega), nI_clamp (by omega), h3, rv_some, asR_ref, h5, show mm_arr (.inr (0, len)) 0 = some len from rfl, nI_clamp (by omega), i_hiI h4.1, h6, nI_1]
  simp only [Option.bind_some, Bool.true_and, show Nat.ble 16 26 = true from rfl, cond_true, mm_inb_nI hp hlen]
theorem ltz {t : Int32} (h : t.toInt < 0) : t < 0 := Int32.lt_iff_toInt_lt.mpr (by rw [show (0 : Int32).toInt = 0 from by decide]; exact h)
theorem nltz {t : Int32} (h : 0 ≤ t.toInt) : ¬ t < 0 := fun w => by have := Int32.lt_iff_toInt_lt.mp w; rw [show (0 : Int32).toInt = 0 from by decide] at this; omega
theorem L_wx {b len j : Nat} {g : Nat → Int32} (hlen : len < 2 ^ 31) (d : Nat) {e : Nat → Int} (he : EB e) {ts' : List Bool} : ∀ (l : List Int32) (p f : Nat) (ts : List Bool) (st : List Int) (M : mmM), KLX n xs M b len g j → RC g p l → p + l.length ≤ len → tyR l ts = some ts' → OKS ts st → CPl M st → XE M e → ∃ M1, lp_X4_worth n xs N (d + 4) (f + l.length) 79 [some (.ref 25), none, none, none, none, none, none, some (.int 0), some (.int (nI len)), some (.int (nI p)), none] [] M = lp_X4_worth n xs N (d + 4) f 79 [some (.ref 25), none, none, none, none, none, none, some (.int 0), some (.int (nI len)), some (.int (nI (p + l.length))), none] [] M1 ∧ PX M M1 ∧ CPl M1 (runL e l st) ∧ OKS ts' (runL e l st) := by
  intro l
  induction l with
  | nil =>
    intro p f ts st M hk hr hp ht ho hc hx
    exact ⟨M, rfl, PX.rf, hc, by rw [← Option.some.inj ht]; exact ho⟩
  | cons t l ih =>
    intro p f ts st M hk hr hp ht ho hc hx
    rw [List.length_cons] at hp ⊢
    obtain ⟨hl, u, hty, hu⟩ := tyR_c ht
    have hl' := OKS_len ho
    obtain ⟨hg, hr⟩ := hr
    have hns := OKS_stp he hty ho
    rw [show f + (l.length + 1) = f + l.length + 1 from by omega, wrow hk (by omega) hlen, if_pos rfl, hg, if_neg (TC_ne hty).1, if_neg (TC_ne hty).2, show p + (l.length + 1) = p + 1 + l.length from by omega]
    have go : ∀ M2, PX M M2 → CPl M2 (stp e t st) → ∃ M1, lp_X4_worth n xs N (d + 4) (f + l.length) 79 [some (.ref 25), none, none, none, none, none, none, some (.int 0), some (.int (nI len)), some (.int (nI (p + 1))), none] [] M2 = lp_X4_worth n xs N (d + 4) f 79 [some (.ref 25), none, none, none, none, none, none, some (.int 0), some (.int (nI len)), some (.int (nI (p + 1 + l.length))), none] [] M1 ∧ PX M M1 ∧ CPl M1 (runL e (t :: l) st) ∧ OKS ts' (runL e (t :: l) st) := by
      intro M2 g1 g2
      obtain ⟨M1, f1, f2, f3, f4⟩ := ih (p + 1) f u (stp e t st) M2 (hk.px g1) hr (by omega) hu hns g2 (hx.px g1)
      exact ⟨M1, f1, g1.tr f2, f3, f4⟩
    by_cases hz : t.toInt < 0
    · rw [if_pos (ltz hz)]
      obtain ⟨M2, e1, e2, e3⟩ := E_tokL (n := n) (xs := xs) (N := N) d he hty hz ho hl hx hc
      (rw [e1, ra_V]; simp only [Option.bind_some])
      exact go M2 e2 e3
    · rw [if_neg (nltz (by omega))]
      obtain ⟨M2, e1, e2, e3⟩ := E_push (n := n) (xs := xs) (N := N) (d + 2) (x := t.toInt64) hc (by omega)
      (rw [e1, ra_V]; simp only [Option.bind_some])
      have hb : t.toInt ≤ 1000000 := by
        rcases hty with h | ⟨h, _⟩ | ⟨h, _⟩ | ⟨h, _⟩ | ⟨h, _⟩ | ⟨h, _⟩
        · exact h.2.1
        · exact absurd h hz
        · exact absurd (by subst h; decide) hz
        · exact absurd (op_of (by rcases h with q | q | q | q <;> simp [q])).1 hz
        · exact absurd (op_of (by rcases h with q | q | q <;> simp [q])).1 hz
        · exact absurd (op_of (by rcases h with q | q <;> simp [q])).1 hz
      refine go M2 e2 ?_
      rw [stp_num (by omega)]
      rw [Int32.toInt_toInt64, hlN_id (by omega) hb] at e3
      exact e3
theorem L_ws {b len j : Nat} {g : Nat → Int32} (hlen : len < 2 ^ 31) (d : Nat) : ∀ (l : List Int32) (p f : Nat) (M : mmM), KLX n xs M b len g j → RC g p l → p + l.length ≤ len → (∀ t, t ∈ l → t ≠ -59) → lp_X4_worth n xs N d (f + l.length) 79 [some (.ref 25), none, none, none, none, none, none, some (.int 1), some (.int (nI len)), some (.int (nI p)), none] [] M = lp_X4_worth n xs N d f 79 [some (.ref 25), none, none, none, none, none, none, some (.int 1), some (.int (nI len)), some (.int (nI (p + l.length))), none] [] M := by
  intro l
  induction l with
  | nil => intro p f M _ _ _ _; rfl
  | cons t l ih =>
    intro p f M hk hr hp ht
    rw [List.length_cons] at hp ⊢
    obtain ⟨hg, hr⟩ := hr
    rw [show f + (l.length + 1) = f + l.length + 1 from by omega, wrow hk (by omega) hlen, if_neg (by decide), hg, if_neg (ht t (List.mem_cons_self ..)), show p + (l.length + 1) = p + 1 + l.length from by omega]
    exact ih (p + 1) f M hk hr (by omega) (fun x hx => ht x (List.mem_cons_of_mem _ hx))
end LW
