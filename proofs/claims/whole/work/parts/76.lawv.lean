section LV
variable {n : Nat} {xs : Nat → Int32} {N : Nat}
theorem topc {M : mmM} {v : Int} (h : CPl M [v]) (d : Nat) : ∃ M1 x, mm_E n xs N (d + 1) 41 [.ref 25] M = some (some (.int x), M1) ∧ x.toInt = v ∧ PX M M1 ∧ CPl M1 [] := E_popC d h (by rw [List.length_nil]; omega)
theorem L_wsum {b len j : Nat} {g : Nat → Int32} (hlen : len < 2 ^ 31) (d : Nat) {e : Nat → Int} (he : EB e) {s : List Int32} {r : List Int32} {p f : Nat} {M : mmM} (hk : KLX n xs M b len g j) (hr : RC g p (s ++ (-59 :: r))) (hp : p + s.length < len) (ht : tyR s [] = some [false]) (hc : CPl M []) (hx : XE M e) (hf : s.length < f) : ∃ M1 x, lp_X4_worth n xs N (d + 4) f 79 [some (.ref 25), none, none, none, none, none, none, some (.int 0), some (.int (nI len)), some (.int (nI p)), none] [] M = some (some (.int x), M1) ∧ x.toInt = topv (runL e s []) ∧ PX M M1 := by
  obtain ⟨hr1, hr2, _⟩ := RC_app hr
  obtain ⟨f, rfl⟩ : ∃ q, f = q + 1 + s.length := ⟨f - 1 - s.length, by omega⟩
  obtain ⟨M1, e1, e2, e3, e4⟩ := L_wx (n := n) (xs := xs) (N := N) hlen d he s p (f + 1) [] [] M hk hr1 (by omega) ht trivial hc hx
  obtain ⟨v, hv⟩ := OKS_1 e4
  rw [hv] at e3 ⊢
  rw [e1, wrow (hk.px e2) hp hlen, if_pos rfl, hr2, if_pos rfl]
  obtain ⟨M2, x, f1, f2, f3, _⟩ := topc (n := n) (xs := xs) (N := N) e3 (d + 3)
  (rw [f1, ra_I]; simp only [Option.bind_some])
  exact ⟨_, _, rfl, f2, e2.tr f3⟩
theorem L_wl {b len j : Nat} {g : Nat → Int32} (hlen : len < 2 ^ 31) (d : Nat) {e : Nat → Int} (he : EB e) : ∀ (L : List (List Int32 × List Int32)) (p f : Nat) (M : mmM), WFL L → KLX n xs M b len g j → RC g p (encL L) → p + (encL L).length = len → CPl M [] → XE M e → (encL L).length < f → ∃ M1 x, lp_X4_worth n xs N (d + 4) f 79 [some (.ref 25), none, none, none, none, none, none, some (.int 0), some (.int (nI len)), some (.int (nI p)), none] [] M = some (some (.int x), M1) ∧ x.toInt = lawV e L ∧ PX M M1 := by
  intro L
  induction L with
  | nil =>
    intro p f M hw hk hr hp hc hx hf
    obtain ⟨f, rfl⟩ : ∃ g, f = g + 1 := ⟨f - 1, by omega⟩
    have hp' : p = len := by rw [← hp]; rfl
    rw [lu_X4_worth_79, if_pos (by rw [hp']; exact Int32.le_refl _)]
    exact ⟨_, _, rfl, rfl, PX.rf⟩
  | cons q L ih =>
    intro p f M hw hk hr hp hc hx hf
    obtain ⟨c, s⟩ := q
    obtain ⟨w1, w2⟩ := hw (c, s) (List.mem_cons_self ..)
    have hw' : WFL L := fun q hq => hw q (List.mem_cons_of_mem _ hq)
    dsimp only at w1 w2
    by_cases hc0 : c = []
    · subst hc0
      have hE : encL (([], s) :: L) = s ++ (-59 :: encL L) := rfl
      rw [hE] at hr hp hf
      rw [List.length_append, List.length_cons] at hp hf
      exact L_wsum (s := s) hlen d he hk hr (by omega) w2 hc hx (by omega)
    · have hE : encL ((c, s) :: L) = c ++ ([-63] ++ (s ++ (-59 :: encL L))) := by
        show c ++ ((if c = [] then [] else [-63]) ++ (s ++ (-59 :: encL L))) = _
        rw [if_neg hc0]
      rw [hE] at hr hp hf
      rw [List.length_append, List.length_append, List.length_append, List.length_cons, List.length_cons, List.length_nil] at hp hf
      obtain ⟨hr1, hr2, hr3⟩ := RC_app hr
      have hr3 : RC g (p + c.length + 1) (s ++ (-59 :: encL L)) := hr3
      obtain ⟨f, rfl⟩ : ∃ q, f = q + 1 + c.length := ⟨f - 1 - c.length, by omega⟩
      obtain ⟨M1, e1, e2, e3, e4⟩ := L_wx (n := n) (xs := xs) (N := N) hlen d he c p (f + 1) [] [] M hk hr1 (by omega) (w1.resolve_left hc0) trivial hc hx
      obtain ⟨v, hv⟩ := OKS_1 e4
      rw [hv] at e3
      have hV : lawV e ((c, s) :: L) = if v = 0 then lawV e L else topv (runL e s []) := by
        show (if c = [] then topv (runL e s []) else if topv (runL e c []) = 0 then lawV e L else topv (runL e s [])) = _
        rw [if_neg hc0, hv]; rfl
      rw [e1, wrow (hk.px e2) (by omega) hlen, if_pos rfl, hr2, if_neg (by decide), if_pos rfl, hV]
      obtain ⟨M2, x, f1, f2, f3, f4⟩ := topc (n := n) (xs := xs) (N := N) e3 (d + 3)
      (rw [f1, ra_I]; simp only [Option.bind_some])
      have g2 := e2.tr f3
      by_cases hv0 : v = 0
      · rw [if_pos (Int32.toInt_inj.mp (by rw [f2, hv0]; rfl)), if_pos hv0]
        obtain ⟨hr4, hr5, hr6⟩ := RC_app hr3
        obtain ⟨f, rfl⟩ : ∃ q, f = q + 1 + s.length := ⟨f - 1 - s.length, by omega⟩
        rw [L_ws hlen (d + 4) s (p + c.length + 1) (f + 1) M2 (hk.px g2) hr4 (by omega) (tyR_ne w2), wrow (hk.px g2) (by omega) hlen, if_neg (by decide), hr5, if_pos rfl]
        obtain ⟨M3, y, i1, i2, i3⟩ := ih (p + c.length + 1 + s.length + 1) f M2 hw' (hk.px g2) hr6 (by omega) f4 (hx.px g2) (by omega)
        exact ⟨M3, y, i1, i2, g2.tr i3⟩
      · rw [if_neg (fun w => hv0 (by rw [← f2, w]; rfl)), if_neg hv0]
        obtain ⟨M3, y, i1, i2, i3⟩ := L_wsum (n := n) (xs := xs) (N := N) (f := f) hlen d he (hk.px g2) hr3 (by omega) w2 f4 (hx.px g2) (by omega)
        exact ⟨M3, y, i1, i2, g2.tr i3⟩
/-- a law's clauses as the model keeps them, from the q-th on -/
def RML (M : mmM) (t q : Nat) : List (List Int32 × List Int32) → Prop
  | [] => True
  | w :: r => (∃ a b c : Nat, mm_I M 66 q = nI a ∧ mm_I M 67 q = nI b ∧ mm_I M 68 q = nI c ∧ a + w.1.length = b ∧ b + w.2.length = c ∧ c ≤ 520 ∧ RTk (mm_I M 62) (mm_I M 63) (520 * t + a) w.1 ∧ RTk (mm_I M 62) (mm_I M 63) (520 * t + b) w.2) ∧ RML M t (q + 1) r
theorem RML.cg {M M' : mmM} {t : Nat} (h : ∀ a, 62 ≤ a → a ≤ 68 → mm_I M' a = mm_I M a) : ∀ {L : List (List Int32 × List Int32)} {q : Nat}, RML M t q L → RML M' t q L
  | [], _, _ => trivial
  | w :: r, q, ⟨⟨a, b, c, h1, h2, h3, h4, h5, h6, h7, h8⟩, hr⟩ => by
    refine ⟨⟨a, b, c, ?_, ?_, ?_, h4, h5, h6, ?_, ?_⟩, RML.cg h hr⟩
    · rw [h 66 (by omega) (by omega)]; exact h1
    · rw [h 67 (by omega) (by omega)]; exact h2
    · rw [h 68 (by omega) (by omega)]; exact h3
    · rw [h 62 (by omega) (by omega), h 63 (by omega) (by omega)]; exact h7
    · rw [h 62 (by omega) (by omega), h 63 (by omega) (by omega)]; exact h8
theorem E_workOut (hN : 10000 ≤ N) (d : Nat) {e : Nat → Int} (he : EB e) {l : List Int32} {t a c : Nat} {k : Bool} {M : mmM} (ht : t < 5) (hac : a + l.length = c) (hc : c ≤ 520) (hr : RTk (mm_I M 62) (mm_I M 63) (520 * t + a) l) (hty : tyR l [] = some [k]) (hm : ME M e) : ∃ M1 x, mm_E n xs N (d + 4) 210 [.ref 60, .int (nI t), .int (nI a), .int (nI c)] M = some (some (.int x), M1) ∧ x.toInt = topv (runL e l []) ∧ PM M M1 := by
  have m520 : ∀ y : Nat, (520 : Int32) * nI t + nI y = nI (520 * t + y) := fun y => by
    rw [show (520 : Int32) = nI 520 from by decide, ← nI_add, show nI 520 * nI t = nI (520 * t) from (Int32.ofNat_mul 520 t).symm]
  rw [u_X12_workOut, m520 a]
  obtain ⟨M1, e1, e2, e3, e4⟩ := L_wo (n := n) (xs := xs) (N := N) (q := 520 * t + c) (by omega) (m520 c) d he l (520 * t + a) N [] [] M hr (by omega) hty trivial trivial hm (by omega)
  obtain ⟨v, hv⟩ := OKS_1 e4
  rw [hv] at e3 ⊢
  exact ⟨M1, _, e1, e3.1, e2⟩
theorem L_ml (hN : 10000 ≤ N) (d : Nat) {e : Nat → Int} (he : EB e) {t cnt : Nat} (ht : t < 5) (hcn : cnt ≤ 140) : ∀ (L : List (List Int32 × List Int32)) (q f : Nat) (M : mmM), WFL L → RML M t q L → q + L.length = 140 * t + cnt → mm_I M 65 t = nI cnt → ME M e → L.length < f → ∃ M1 x, lp_X12_worthOf n xs N (d + 4) f 6 [some (.ref 60), some (.int (nI t)), some (.int (nI q))] [] M = some (some (.int x), M1) ∧ x.toInt = lawV e L ∧ PM M M1 := by
  have m140 : ∀ y : Nat, (140 : Int32) * nI t + nI y = nI (140 * t + y) := fun y => by
    rw [show (140 : Int32) = nI 140 from by decide, ← nI_add, show nI 140 * nI t = nI (140 * t) from (Int32.ofNat_mul 140 t).symm]
  intro L
  induction L with
  | nil =>
    intro q f M hw hr hq h65 hm hf
    obtain ⟨f, rfl⟩ : ∃ g, f = g + 1 := ⟨f - 1, by omega⟩
    rw [lu_X12_worthOf_6, mm_inb_nI ht (by omega), nI_clamp (by omega), h65, m140, if_pos (by rw [← hq]; exact Int32.le_refl _)]
    exact ⟨_, _, rfl, rfl, PM.rf⟩
  | cons w L ih =>
    intro q f M hw hr hq h65 hm hf
    obtain ⟨f, rfl⟩ : ∃ g, f = g + 1 := ⟨f - 1, by omega⟩
    rw [List.length_cons] at hq hf
    obtain ⟨c, s⟩ := w
    obtain ⟨w1, w2⟩ := hw (c, s) (List.mem_cons_self ..)
    have hw' : WFL L := fun q hq => hw q (List.mem_cons_of_mem _ hq)
    dsimp only at w1 w2
    obtain ⟨⟨a, b, c', h1, h2, h3, h4, h5, h6, h7, h8⟩, hr'⟩ := hr
    dsimp only at h4 h5 h7 h8
    rw [lu_X12_worthOf_6, mm_inb_nI ht (by omega), nI_clamp (by omega), h65, m140, if_neg (show ¬ nI (140 * t + cnt) ≤ nI q from fun w => by have := (nI_leI (by omega) (by omega)).mp w; omega), mm_inb_nI (by omega) (by omega), nI_clamp (by omega), h1, h2, h3]
    simp only [cond_true]
    by_cases hc0 : c = []
    · subst hc0
      rw [List.length_nil] at h4
      rw [if_pos (by rw [← h4]; rfl)]
      obtain ⟨M1, x, e1, e2, e3⟩ := E_workOut (n := n) (xs := xs) (N := N) hN d he ht h5 h6 h8 w2 hm
      (rw [e1, ra_I]; simp only [Option.bind_some])
      exact ⟨_, _, rfl, e2, e3⟩
    · have hcl : 0 < c.length := List.length_pos_iff.mpr hc0
      rw [if_neg (fun w => by have := (nI_eq (by omega) (by omega)).mp w; omega)]
      obtain ⟨M1, x, e1, e2, e3⟩ := E_workOut (n := n) (xs := xs) (N := N) hN d he ht h4 (by omega) h7 (w1.resolve_left hc0) hm
      (rw [e1, ra_I]; simp only [Option.bind_some])
      have hV : lawV e ((c, s) :: L) = if x.toInt = 0 then lawV e L else topv (runL e s []) := by
        show (if c = [] then topv (runL e s []) else if topv (runL e c []) = 0 then lawV e L else topv (runL e s [])) = _
        rw [if_neg hc0, e2]
      rw [hV]
      have fr : ∀ a, 62 ≤ a → a ≤ 68 → mm_I M1 a = mm_I M a := fun a g1 g2 => e3.2.2.2.2.2 a (by omega)
      by_cases hx : x.toInt = 0
      · rw [if_pos (Int32.toInt_inj.mp (by rw [hx]; rfl)), if_pos hx, nI_1]
        obtain ⟨M2, y, f1, f2, f3⟩ := ih (q + 1) f M1 hw' (RML.cg fr hr') (by omega) (by rw [fr 65 (by omega) (by omega)]; exact h65) (hm.pm e3) (by omega)
        exact ⟨M2, y, f1, f2, e3.tr f3⟩
      · rw [if_neg (fun w => hx (by rw [w]; rfl)), if_neg hx, fr 67 (by omega) (by omega), fr 68 (by omega) (by omega), h2, h3]
        obtain ⟨M2, y, f1, f2, f3⟩ := E_workOut (n := n) (xs := xs) (N := N) (M := M1) hN d he ht h5 h6 (by rw [fr 62 (by omega) (by omega), fr 63 (by omega) (by omega)]; exact h8) w2 (hm.pm e3)
        (rw [f1, ra_I]; simp only [Option.bind_some])
        exact ⟨_, _, rfl, f2, e3.tr f3⟩
end LV
