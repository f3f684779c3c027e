theorem law_ok2 {T : Nat → Int32} {s : Nat} : ∀ (f a : Nat) (L : List (List Int32 × List Int32)), a ≤ s → (encL L).length + L.length ≤ a → ∀ L', lawP T s f a L = .inr L' → (encL L').length + L'.length ≤ s ∧ 1 ≤ L'.length
  | 0, a, L, ha, he => fun L' e => by cases e
  | f + 1, a, L, ha, he => by
    obtain ⟨p1, p2⟩ := clau_ok (T := T) ha
    unfold lawP
    cases hr : clauP T s a with
    | inl p => exact fun L' e => by cases e
    | inr v =>
      obtain ⟨b, c, t⟩ := v
      obtain ⟨g1, g2, g3, g4⟩ := p2 b c t hr
      have k1 := sk_ge T s b
      have k2 := sk_le (T := T) g1
      have he' : (encL (L ++ [(c, t)])).length + (L ++ [(c, t)]).length ≤ b := by rw [encL_snoc, List.length_append, List.length_cons, List.length_nil]; omega
      have h1' : 1 ≤ (L ++ [(c, t)]).length := by rw [List.length_append, List.length_cons, List.length_nil]; omega
      dsimp only
      by_cases h1 : cu T s (sk T s b) = 59
      · rw [if_pos h1]
        have := cu_lt h1 (by decide)
        exact law_ok2 f (sk T s b + 1) _ (by omega) (by omega)
      · rw [if_neg h1]
        by_cases h2 : cu T s (sk T s b) = -1
        · rw [if_pos h2]
          exact fun L' e => by cases e; exact ⟨by omega, h1'⟩
        · rw [if_neg h2]
          exact fun L' e => by cases e
section CD2
variable {n : Nat} {xs : Nat → Int32} {N : Nat} {M : mmM} {w : List Int32}
/-- one cell more, an array of len ints -/
def NC (M M' : mmM) (len : Nat) : Prop := M'.1 = mm_ups M.1 (mm_n M) (.inr (0, len)) ∧ mm_n M' = mm_n M + 1 ∧ mm_z M' = mm_z M + len ∧ (∀ b, b ≠ mm_n M → mm_I M' b = mm_I M b) ∧ ∀ a q, a ≠ mm_n M → M'.2.2.2.2.2 a q = M.2.2.2.2.2 a q
theorem E_code (d : Nat) (hn : 87 ≤ mm_n M) (hw : WX M w) (hl : w.length < 240) : ∃ M1, mm_E n xs N (d + 3) 17 [.ref 23] M = some (some (.ref (mm_n M)), M1) ∧ NC M M1 w.length ∧ RC (mm_I M1 (mm_n M)) 0 w := by
  obtain ⟨h1, h2⟩ := hw
  have s24 : ∀ M', mm_s (mm_Y n xs) M' 24 = .inr (0, 240) := fun _ => rfl
  have sn : ∀ M', M'.1 (mm_n M) = .inr (0, w.length) → mm_s (mm_Y n xs) M' (mm_n M) = .inr (0, w.length) := fun M' e => by
    unfold mm_s
    rw [show Nat.blt (mm_n M) (mm_Y n xs).1 = false from by
      cases hh : Nat.blt (mm_n M) (mm_Y n xs).1 with
      | false => rfl
      | true => have := Nat.ble_eq.mp hh; have e87 : (mm_Y n xs).1 = 87 := rfl; omega]
    exact e
  rw [u_X3_code, h1, u_J7_copyOf_59c91, s24]
  dsimp only
  rw [show (Nat.ble (0 + 1) 6 && (!Nat.beq 0 2 || Nat.blt 24 16)) = true from rfl, cond_true, if_neg (show ¬ nI w.length = Int32.ofNat 240 from fun q => by have := (nI_eq (b := 240) (by omega) (by omega)).mp q; omega), nI_clamp (by omega), mm_ble hn, mm_ble (show w.length ≤ 65536 by omega), decide_eq_false (nI_pos (by omega)), s24]
  dsimp only
  rw [show (true && (!false && true)) = true from rfl, cond_true, show (Nat.ble (0 + 1) 6 && (!Nat.beq 0 2 || Nat.blt 24 16)) = true from rfl, cond_true, u_J9_min_7cf53, if_pos (show nI w.length < Int32.ofNat 240 from nI_lt (b := 240) (by omega) (by omega)), ra_I, Option.bind_some]
  dsimp only
  rw [s24, sn _ (show (if mm_n M = mm_n M then _ else _) = _ from if_pos rfl), show ∀ k, mm_arr (.inr (0, k)) 0 = some k from fun _ => rfl, Option.bind_some, show ∀ k, mm_arr (.inr (0, k)) 0 = some k from fun _ => rfl, Option.bind_some, show (0 : Int32).toNatClampNeg = 0 from by decide, nI_clamp (by omega), Nat.zero_add, mm_ble (show w.length ≤ 240 by omega), mm_ble (Nat.le_refl w.length), mm_ble (show 16 ≤ mm_n M by omega), decide_eq_false (nI_pos (n := w.length) (by omega))]
  refine ⟨mm_wR (mm_new M (.inr (0, w.length)) w.length) (mm_n M) (va_cpy (mm_I (mm_new M (.inr (0, w.length)) w.length) 24) (mm_I (mm_new M (.inr (0, w.length)) w.length) (mm_n M)) 0 0 w.length), ?_, ⟨rfl, rfl, rfl, fun b hb => ?_, fun a q ha => ?_⟩, ?_⟩
  · rw [show (Nat.ble (mm_cat []) 8 && (Nat.ble 16 24 && (true && (!false && (!decide ((0 : Int32) < 0) && (!decide ((0 : Int32) < 0) && (true && true))))))) = true from by decide, cond_true, ra_R, Option.bind_some]
  · rw [I_R, if_neg hb]
    show (if b = mm_n M then _ else mm_I M b) = mm_I M b
    rw [if_neg hb]
  · show (if a = mm_n M then _ else M.2.2.2.2.2 a) q = _
    rw [if_neg ha]
  · rw [I_R, if_pos rfl]
    refine RC_cg (g := mm_I M 24) (fun i _ hi => ?_) h2
    rw [pk_cpy_in (by omega) (by omega), Nat.zero_add, Nat.sub_zero]
    show (if (24 : Nat) = mm_n M then _ else mm_I M 24) i = _
    rw [if_neg (by omega)]
end CD2
