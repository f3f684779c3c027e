/-! what is only asked, what is refused -/
def IE (n : Nat) (xs : Nat → Int32) (N : Nat) (gv : Int32 → Int32 → Int32 → Int32 → Int32) (M : mmM) (nc nm : Nat) : Prop := ∃ k p z h bs rs Dk im, IV n xs N gv M nc nm k p z h bs rs Dk im
/-- a call of both: one answer, and all holds again -/
def AA (n : Nat) (xs : Nat → Int32) (N d : Nat) (gv : Int32 → Int32 → Int32 → Int32 → Int32) (nc nm : Nat) (M : mmM) (iX : Nat) (aX : List Value) (iM : Nat) (aM : List Value) : Prop := ∃ v M1 M2, mm_E n xs N d iX aX M = some (some (.int v), M1) ∧ mm_E n xs N d iM aM M1 = some (some (.int v), M2) ∧ FA n xs M M2 ∧ IE n xs N gv M2 nc nm
section RF
variable {n : Nat} {xs : Nat → Int32} {N : Nat} {gv : Int32 → Int32 → Int32 → Int32 → Int32} {M M' M1 M2 : mmM} {nc nm k p z h : Nat} {bs rs : Nat → Nat → Int32} {Dk : Nat → Nat} {im : Bool}
theorem atc_hi {a : Nat} (h : 87 ≤ a) : atc a = false := by
  unfold atc
  rw [scr_hi (by omega)]
  have e1 : (a == 16) = false := by simp; omega
  have e2 : (a == 57) = false := by simp; omega
  have e3 : Nat.ble a 51 = false := by
    cases hh : Nat.ble a 51 with
    | false => rfl
    | true => have := Nat.ble_eq.mp hh; omega
  have e4 : Nat.ble a 85 = false := by
    cases hh : Nat.ble a 85 with
    | false => rfl
    | true => have := Nat.ble_eq.mp hh; omega
  rw [e1, e2, e3, e4]
  simp
theorem atc_scr {a : Nat} (h : atc a = false) : scr a = false := by
  unfold atc at h
  cases hs : scr a with
  | false => rfl
  | true => rw [hs] at h; cases h
theorem IV.upd (hI : IV n xs N gv M nc nm k p z h bs rs Dk im) (hs : M'.1 = M.1) (hn : M'.2.1 = M.2.1) (hP : M'.2.2.2.2.2 = M.2.2.2.2.2) (hF : ∀ a, atc a = false → mm_I M' a = mm_I M a) (h25 : ∀ k, k < 4 → mm_I M' 25 k = mm_I M 25 k) (h60 : ∀ k, k ≠ 0 → (k < 30 ∨ k = 31 ∨ 33 ≤ k ∧ k < 35 ∨ 38 < k ∧ k < 43 ∨ k = 44 ∨ 45 < k) → mm_I M' 60 k = mm_I M 60 k) (h16 : ∀ k, k ≠ 17 → k ≠ 18 → mm_I M' 16 k = mm_I M 16 k) : FA n xs M M' ∧ (RB M' nc nm → CT n xs N gv M' nc nm) ∧ CD n xs M' h := by
  obtain ⟨i1, i2, i3, i4, i5, i6, i7, i8, i9, ⟨i10, i11, i12⟩, i13, ⟨i14, i15⟩, i16, i17, i18, i19⟩ := hI
  have hn87 : 87 ≤ mm_n M := i3.2.2.2.2.1
  have hcd : ∀ j b, j < 4 → mm_p (mm_Y n xs) M 26 j = some b → atc b = false := by
    intro j b hj hb
    obtain ⟨c1, c2, c3⟩ := i18 j b hj hb
    by_cases q : b < 87
    · exact c2 q
    · exact atc_hi (by omega)
  have fa : FA n xs M M' := ⟨fun a _ ha => hF a ha, h25, h60, h16, by rw [show mm_n M' = mm_n M from hn]; exact Nat.le_refl _, fun a _ => congrFun hs a, fun a k _ _ => congrFun (congrFun hP a) k, fun j b hj hb => hF b (hcd j b hj hb)⟩
  refine ⟨fa, fun hB => i1.fa hn87 (fun j b hj hb => (i18 j b hj hb).1) fa hB, fun j b hj hb => ?_⟩
  rw [fa.p26 hn87 j] at hb
  obtain ⟨c1, c2, c3⟩ := i18 j b hj hb
  refine ⟨by rw [show mm_n M' = mm_n M from hn]; exact c1, c2, fun i o hi e => c3 i o hi ?_⟩
  rw [p_39] at e ⊢
  rw [← hP]
  exact e
theorem IV.fr (hI : IV n xs N gv M nc nm k p z h bs rs Dk im) (f : FR M M') : FA n xs M M' ∧ IV n xs N gv M' nc nm k p z h bs rs Dk im := by
  have hI0 := hI
  obtain ⟨f1, f2, f3, f4, f5, f6, f7, f8, f9⟩ := f
  have u := hI.upd f1 f2 f4 (fun a ha => f5 a (atc_scr ha)) f6 (fun q q0 hq => f7 q q0 (by omega)) (fun q _ _ => by rw [f5 16 (by decide)])
  obtain ⟨i1, i2, i3, i4, i5, i6, i7, i8, i9, ⟨i10, i11, i12⟩, i13, ⟨i14, i15⟩, i16, i17, i18, i19⟩ := hI
  have fr : FR M M' := ⟨f1, f2, f3, f4, f5, f6, f7, f8, f9⟩
  have c1 := i1.mv fr
  have lw : lwN M' = lwN M := by unfold lwN; rw [f6 1 (by decide)]
  refine ⟨u.1, c1, i2.mv fr, ?_, ?_, ?_, ?_, ?_, ⟨i8.1, by unfold nowX; rw [f5 35 (by decide), f5 36 (by decide), f5 37 (by decide)]; exact i8.2⟩, ?_, ⟨?_, ?_, ?_⟩, ?_, ⟨?_, ?_⟩, ?_, ?_, u.2.2, i19.1, by rw [lw, show mm_n M' = mm_n M from f2]; exact i19.2.1, by rw [lw, show mm_z M' = mm_z M from f3]; exact i19.2.2⟩
  · refine i3.mv (fun a _ _ => congrFun f1 a) (by rw [show mm_n M' = mm_n M from f2]; exact Nat.le_refl _) (fun a q _ _ => congrFun (congrFun f4 a) q) ?_ ?_ i3.2.1 i3.2.2.2.1 i3.2.2.2.2.2.2.1 i3.2.2.2.2.2.2.2.1
    · rw [f5 38 (by decide)]; exact i3.1
    · rw [f5 38 (by decide)]; exact i3.2.2.1
  · refine CP.mv i3 i4 (fun q => congrFun (congrFun f4 39) q) (fun i o hi e => ?_)
    obtain ⟨o2, e2, B2⟩ := i3.2.2.2.2.2.2.2.2.2.1 i hi
    have : o2 = o := Option.some.inj (e2.symm.trans e)
    subst this
    have := B2.1
    exact ⟨f5 _ (scr_hi (by omega)), f5 _ (scr_hi (by omega)), f5 _ (scr_hi (by omega))⟩
  · obtain ⟨x1, x2⟩ := i5
    refine ⟨by rw [f7 32 (by decide) (by decide)]; exact x1, ?_⟩
    rw [f5 79 (by decide)]
    exact x2
  · rw [f5 41 (by decide), f5 77 (by decide)]; exact i6
  · rw [f5 35 (by decide)]; exact i7
  · rw [f5 33 (by decide), f5 41 (by decide)]; exact i9
  · rw [f5 16 (by decide)]; exact i10
  · rw [f7 45 (by decide) (by decide)]; exact i11
  · rw [f5 33 (by decide), f5 46 (by decide), f5 42 (by decide), f5 43 (by decide), f5 44 (by decide), f5 85 (by decide)]; exact i12
  · rw [f5 57 (by decide), f5 78 (by decide)]; exact i13
  · rw [f5 16 (by decide), f7 30 (by decide) (by decide)]; exact i14
  · rw [f7 30 (by decide) (by decide)]; exact i15
  · rw [f8 54 (Or.inl rfl)]; exact i16
  · rw [f8 55 (Or.inr rfl)]; exact i17
theorem IV.ct (hI : IV n xs N gv M nc nm k p z h bs rs Dk im) : CT n xs N gv M nc nm := hI.1
theorem QQ.aa (hI : IV n xs N gv M nc nm k p z h bs rs Dk im) {d iX iM : Nat} {aX aM : List Value} (q : QQ n xs N d M iX aX iM aM) : AA n xs N d gv nc nm M iX aX iM aM := by
  obtain ⟨v, M1, M2, e1, f1, e2, f2⟩ := q
  have r := hI.fr (f1.tr f2)
  exact ⟨v, M1, M2, e1, e2, r.1, k, p, z, h, bs, rs, Dk, im, r.2⟩
/-! refused -/
theorem E_refuse (d : Nat) (M : mmM) {i : Nat} (hi : i < 5) : mm_E n xs N (d + 2) 126 [.ref 16, .int (nI i)] M = some (some (.int (-1)), mm_wI M 57 i (mm_I M 57 i + 1)) := by
  rw [u_X11_refuse, E_isWithin d M 0 (nI i) (Int32.ofNat 5 - 1), ra_I, Option.bind_some]
  dsimp only
  have hw : wi 0 (nI i) (Int32.ofNat 5 - 1) = true := by
    rcases (show i = 0 ∨ i = 1 ∨ i = 2 ∨ i = 3 ∨ i = 4 by omega) with rfl | rfl | rfl | rfl | rfl <;> decide
  rw [hw, if_neg (show ¬ mb true = 0 by decide)]
  simp only [mm_inb_nI hi (by omega), mm_ble (show 16 ≤ 57 by omega), Bool.and_self, cond_true, nI_clamp (show i < 2 ^ 31 by omega)]
theorem E_isRef (d : Nat) (M : mmM) {i : Nat} (hi : i < 5) : mm_E n xs N (d + 1) 242 [.ref 60, .int (nI i)] M = some (some (.int 1), mm_wI M 78 i (mm_I M 78 i + 1)) := by
  rw [u_X12_isRefused, if_neg (nI_ne1 (by omega))]
  simp only [mm_inb_nI hi (by omega), mm_ble (show 16 ≤ 78 by omega), Bool.and_self, cond_true, nI_clamp (show i < 2 ^ 31 by omega)]
  rw [if_neg (nI_ne1 (by omega))]
theorem E_isRefN (d : Nat) (M : mmM) : mm_E n xs N (d + 1) 242 [.ref 60, .int (-1)] M = some (some (.int 0), M) := by
  rw [u_X12_isRefused, if_pos rfl, if_pos rfl]
theorem IV.ref (hI : IV n xs N gv M nc nm k p z h bs rs Dk im) {i : Nat} (hi : i < 5) : FA n xs M (mm_wI (mm_wI M 57 i (mm_I M 57 i + 1)) 78 i (mm_I (mm_wI M 57 i (mm_I M 57 i + 1)) 78 i + 1)) ∧ IV n xs N gv (mm_wI (mm_wI M 57 i (mm_I M 57 i + 1)) 78 i (mm_I (mm_wI M 57 i (mm_I M 57 i + 1)) 78 i + 1)) nc nm k p z h bs rs Dk im := by
  have fI : ∀ a, a ≠ 57 → a ≠ 78 → mm_I (mm_wI (mm_wI M 57 i (mm_I M 57 i + 1)) 78 i (mm_I (mm_wI M 57 i (mm_I M 57 i + 1)) 78 i + 1)) a = mm_I M a := fun a a1 a2 => by rw [I_wn a2, I_wn a1]
  have u := hI.upd (M' := mm_wI (mm_wI M 57 i (mm_I M 57 i + 1)) 78 i (mm_I (mm_wI M 57 i (mm_I M 57 i + 1)) 78 i + 1)) rfl rfl rfl (fun a ha => fI a (fun e => by subst e; cases ha) (fun e => by subst e; cases ha)) (fun q _ => by rw [fI 25 (by decide) (by decide)]) (fun q _ _ => by rw [fI 60 (by decide) (by decide)]) (fun q _ _ => by rw [fI 16 (by decide) (by decide)])
  obtain ⟨i1, i2, i3, i4, i5, i6, i7, i8, i9, ⟨i10, i11, i12⟩, i13, ⟨i14, i15⟩, i16, i17, i18, i19⟩ := hI
  have lw : lwN (mm_wI (mm_wI M 57 i (mm_I M 57 i + 1)) 78 i (mm_I (mm_wI M 57 i (mm_I M 57 i + 1)) 78 i + 1)) = lwN M := by unfold lwN; rw [fI 25 (by decide) (by decide)]
  refine ⟨u.1, u.2.1 (i1.2.1.mv (fI 35 (by decide) (by decide)) (fI 36 (by decide) (by decide)) (fI 37 (by decide) (by decide)) (fI 77 (by decide) (by decide)) (fI 33 (by decide) (by decide))), ?_, ?_, ?_, ?_, ?_, ?_, ⟨i8.1, by unfold nowX; rw [fI 35 (by decide) (by decide), fI 36 (by decide) (by decide), fI 37 (by decide) (by decide)]; exact i8.2⟩, ?_, ⟨?_, ?_, ?_⟩, ?_, ⟨?_, ?_⟩, ?_, ?_, u.2.2, i19.1, by rw [lw]; exact i19.2.1, by rw [lw]; exact i19.2.2⟩
  · unfold RS at i2 ⊢
    rw [fI 47 (by decide) (by decide), fI 48 (by decide) (by decide), fI 49 (by decide) (by decide), fI 50 (by decide) (by decide), fI 51 (by decide) (by decide), fI 81 (by decide) (by decide), fI 82 (by decide) (by decide), fI 83 (by decide) (by decide), fI 84 (by decide) (by decide), fI 60 (by decide) (by decide)]
    exact i2
  · refine i3.mv (fun a _ _ => rfl) (Nat.le_refl _) (fun a q _ _ => rfl) ?_ ?_ i3.2.1 i3.2.2.2.1 i3.2.2.2.2.2.2.1 i3.2.2.2.2.2.2.2.1
    · rw [fI 38 (by decide) (by decide)]; exact i3.1
    · rw [fI 38 (by decide) (by decide)]; exact i3.2.2.1
  · refine CP.mv i3 i4 (fun q => rfl) (fun i' o hi' e => ?_)
    obtain ⟨o2, e2, B2⟩ := i3.2.2.2.2.2.2.2.2.2.1 i' hi'
    have : o2 = o := Option.some.inj (e2.symm.trans e)
    subst this
    have := B2.1
    exact ⟨fI _ (by omega) (by omega), fI _ (by omega) (by omega), fI _ (by omega) (by omega)⟩
  · obtain ⟨x1, x2⟩ := i5
    refine ⟨by rw [fI 60 (by decide) (by decide)]; exact x1, ?_⟩
    rw [fI 79 (by decide) (by decide)]
    exact x2
  · rw [fI 41 (by decide) (by decide), fI 77 (by decide) (by decide)]; exact i6
  · rw [fI 35 (by decide) (by decide)]; exact i7
  · rw [fI 33 (by decide) (by decide), fI 41 (by decide) (by decide)]; exact i9
  · rw [fI 16 (by decide) (by decide)]; exact i10
  · rw [fI 60 (by decide) (by decide)]; exact i11
  · rw [fI 33 (by decide) (by decide), fI 46 (by decide) (by decide), fI 42 (by decide) (by decide), fI 43 (by decide) (by decide), fI 44 (by decide) (by decide), fI 85 (by decide) (by decide)]; exact i12
  · intro q hq
    have := i13 q hq
    rw [I_wn (show 57 ≠ 78 by decide), I_w, if_pos rfl, I_w, if_pos rfl, I_wn (show 78 ≠ 57 by decide)]
    by_cases qi : q = i
    · subst qi
      rw [if_pos rfl, if_pos rfl, this]
    · rw [if_neg qi, if_neg qi, this]
  · rw [fI 16 (by decide) (by decide), fI 60 (by decide) (by decide)]; exact i14
  · rw [fI 60 (by decide) (by decide)]; exact i15
  · rw [fI 54 (by decide) (by decide)]; exact i16
  · rw [fI 55 (by decide) (by decide)]; exact i17
/-- both refuse, for one reason -/
theorem AA.ref (hI : IV n xs N gv M nc nm k p z h bs rs Dk im) {d iX iM : Nat} {aX aM : List Value} {i : Nat} (hi : i < 5) (e1 : mm_E n xs N d iX aX M = some (some (.int (-1)), mm_wI M 57 i (mm_I M 57 i + 1))) (e2 : ∀ M1, M1 = mm_wI M 57 i (mm_I M 57 i + 1) → mm_E n xs N d iM aM M1 = some (some (.int (-1)), mm_wI M1 78 i (mm_I M1 78 i + 1))) : AA n xs N d gv nc nm M iX aX iM aM := by
  have r := hI.ref hi
  exact ⟨-1, _, _, e1, e2 _ rfl, r.1, k, p, z, h, bs, rs, Dk, im, r.2⟩
end RF
