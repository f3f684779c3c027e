/-! many acts at once: the class does all of its own first, then the model -/
/-- what the class's acts leave alone -/
def XA (n : Nat) (xs : Nat → Int32) (M M' : mmM) : Prop := (∀ a, a < 87 → a ≠ 25 → a ≠ 31 → a ≠ 35 → a ≠ 36 → a ≠ 37 → a ≠ 38 → a ≠ 41 → mm_I M' a = mm_I M a) ∧ (∀ k, k < 4 → mm_I M' 25 k = mm_I M 25 k) ∧ mm_n M ≤ mm_n M' ∧ (∀ a, a < mm_n M → M'.1 a = M.1 a) ∧ (∀ a k, a < mm_n M → a ≠ 39 → M'.2.2.2.2.2 a k = M.2.2.2.2.2 a k) ∧ ∀ j b, j < 4 → mm_p (mm_Y n xs) M 26 j = some b → mm_I M' b = mm_I M b
/-- what the model's acts leave alone -/
def MA (M M' : mmM) : Prop := M'.1 = M.1 ∧ M'.2.1 = M.2.1 ∧ M'.2.2.1 = M.2.2.1 ∧ M'.2.2.2.2.2 = M.2.2.2.2.2 ∧ (∀ a, a ≠ 60 → a ≠ 69 → a ≠ 70 → a ≠ 77 → a ≠ 79 → a ≠ 80 → mm_I M' a = mm_I M a) ∧ ∀ k, k ≠ 32 → mm_I M' 60 k = mm_I M 60 k
theorem MA.rf {M : mmM} : MA M M := ⟨rfl, rfl, rfl, rfl, fun _ _ _ _ _ _ _ => rfl, fun _ _ => rfl⟩
theorem MA.tr {M M' M'' : mmM} (h : MA M M') (g : MA M' M'') : MA M M'' := ⟨g.1.trans h.1, g.2.1.trans h.2.1, g.2.2.1.trans h.2.2.1, g.2.2.2.1.trans h.2.2.2.1, fun a a1 a2 a3 a4 a5 a6 => (g.2.2.2.2.1 a a1 a2 a3 a4 a5 a6).trans (h.2.2.2.2.1 a a1 a2 a3 a4 a5 a6), fun k hk => (g.2.2.2.2.2 k hk).trans (h.2.2.2.2.2 k hk)⟩
theorem MA.I {M M' : mmM} (h : MA M M') {a : Nat} (a1 : a ≠ 60) (a2 : a ≠ 69) (a3 : a ≠ 70) (a4 : a ≠ 77) (a5 : a ≠ 79) (a6 : a ≠ 80) : mm_I M' a = mm_I M a := h.2.2.2.2.1 a a1 a2 a3 a4 a5 a6
theorem BM.ma {M M' : mmM} (h : BM M M') : MA M M' := ⟨h.1, h.2.1, h.2.2.1, h.2.2.2.1, fun a _ a2 a3 a4 _ a6 => h.I a2 a3 a4 a6, fun k _ => by rw [h.I (by decide) (by decide) (by decide) (by decide)]⟩
theorem S2.ma {M M' : mmM} (h : S2 79 60 32 M M') : MA M M' := ⟨h.1, h.2.1, h.2.2.1, h.2.2.2.2.1, fun a a1 _ _ _ a5 _ => h.2.2.2.2.2.1 a a5 a1, fun k hk => h.2.2.2.2.2.2 k hk⟩
theorem S1.bx {M M' : mmM} (h : S1 35 M M') : BX M M' := ⟨h.1, h.2.1, h.2.2.1, h.2.2.2.2.1, fun a _ _ a3 _ _ _ => h.I a3, fun k _ => by rw [h.I (by decide)]⟩
theorem XA.rf {n : Nat} {xs : Nat → Int32} {M : mmM} : XA n xs M M := ⟨fun _ _ _ _ _ _ _ _ _ => rfl, fun _ _ => rfl, Nat.le_refl _, fun _ _ => rfl, fun _ _ _ _ => rfl, fun _ _ _ _ => rfl⟩
/-- the class, behind some acts since M0 (h0 bowls then) -/
def XR (n : Nat) (xs : Nat → Int32) (M0 : mmM) (h0 : Nat) (M : mmM) (p z h : Nat) (bs : Nat → Nat → Int32) : Prop := XA n xs M0 M ∧ WR n xs M p z h ∧ CP n xs M p z bs ∧ CD n xs M h ∧ mm_n M + 3 * h0 = mm_n M0 + 3 * h ∧ mm_z M + 19 * h0 = mm_z M0 + 19 * h
section LO
variable {n : Nat} {xs : Nat → Int32} {N : Nat} {gv : Int32 → Int32 → Int32 → Int32 → Int32} {B M M' M0 Ma M1 Mb M2 : mmM} {nc nm k p z h h0 h1 o : Nat} {bs rs : Nat → Nat → Int32} {Dk : Nat → Nat} {im : Bool}
theorem XA.p26 (hn : 87 ≤ mm_n M) (f : XA n xs M M') (j : Nat) : mm_p (mm_Y n xs) M' 26 j = mm_p (mm_Y n xs) M 26 j := by
  unfold mm_p
  rw [f.2.2.2.2.1 26 j (by omega) (by decide)]
theorem XA.fa (f : XA n xs M M') : FA n xs M M' := by
  obtain ⟨f1, f2, f3, f4, f5, f6⟩ := f
  refine ⟨fun a ha hat => f1 a ha (atc_ne hat (by decide)) (atc_ne hat (by decide)) (atc_ne hat (by decide)) (atc_ne hat (by decide)) (atc_ne hat (by decide)) (atc_ne hat (by decide)) (atc_ne hat (by decide)), f2, fun k _ _ => ?_, fun k _ _ => ?_, f3, f4, f5, f6⟩
  · rw [f1 60 (by decide) (by decide) (by decide) (by decide) (by decide) (by decide) (by decide) (by decide)]
  · rw [f1 16 (by decide) (by decide) (by decide) (by decide) (by decide) (by decide) (by decide) (by decide)]
theorem CD.at (hC : CD n xs M h) {j b : Nat} (hj : j < 4) (hb : mm_p (mm_Y n xs) M 26 j = some b) : atc b = false := by
  obtain ⟨c1, c2, c3⟩ := hC j b hj hb
  by_cases q : b < 87
  · exact c2 q
  · exact atc_hi (by omega)
theorem XR.kx (hn : 87 ≤ mm_n M0) (hR : XR n xs M0 h0 M p z h bs) (hK : KX n xs M Ma p z h h1 o) (hX : BX Ma M1) : XR n xs M0 h0 M1 ((p + 1) % 40) (min 40 (z + 1)) h1 (cns (nowX M) bs) := by
  obtain ⟨⟨f1, f2, f3, f4, f5, f6⟩, hW, hC, hD, hnn, hzz⟩ := hR
  have hA : XA n xs M0 M := ⟨f1, f2, f3, f4, f5, f6⟩
  obtain ⟨k1, k2, k3, k4, k5, k6, k7, k8, k9, k10, k11⟩ := id hK
  have o87 : 87 ≤ o := k6.1
  have n1 : mm_n M1 = mm_n Ma := hX.2.1
  have z1 : mm_z M1 = mm_z Ma := hX.2.2.1
  have hna : mm_n M ≤ mm_n Ma := by rcases k11 with ⟨-, -, -, q, -⟩ | ⟨-, -, -, q, -⟩ <;> omega
  have hi : ∀ a, 87 ≤ a → mm_I M1 a = mm_I Ma a := fun a ha => hX.I (by omega) (by omega) (by omega) (by omega) (by omega) (by omega)
  have sha : ∀ a, M1.1 a = Ma.1 a := fun a => congrFun hX.1 a
  have rfa : ∀ a k, M1.2.2.2.2.2 a k = Ma.2.2.2.2.2 a k := fun a k => congrFun (congrFun hX.2.2.2.1 a) k
  have awo : ∀ j b, j < 4 → mm_p (mm_Y n xs) M 26 j = some b → b < 87 ∨ (b < o ∨ o + 3 ≤ b) := by
    intro j b hj hb
    obtain ⟨c1, c2, c3⟩ := hD j b hj hb
    rcases k11 with ⟨q1, -, q3, -, -⟩ | ⟨-, -, q3, -, -⟩
    · exact Or.inr (c3 p o q1 q3)
    · right; left; omega
  have p26 : ∀ j, mm_p (mm_Y n xs) M1 26 j = mm_p (mm_Y n xs) M 26 j := by
    intro j
    unfold mm_p
    rw [rfa, k8 26 j (by omega) (Or.inl (by decide))]
  have W2a := hK.wr hW
  refine ⟨⟨fun a ha a1 a2 a3 a4 a5 a6 a7 => ?_, fun q hq => ?_, by omega, fun a ha => ?_, fun a q ha h39 => ?_, fun j b hj hb => ?_⟩, ?_, ?_, fun j b hj hb => ?_, ?_, ?_⟩
  · rw [hX.I a1 a2 a3 a4 a5 a7, k1 a a6 (by omega)]
    exact f1 a ha a1 a2 a3 a4 a5 a6 a7
  · rw [hX.2.2.2.2.2 q hq, k1 25 (by decide) (by omega)]
    exact f2 q hq
  · rw [sha, k9 a (by omega)]
    exact f4 a ha
  · rw [rfa, k8 a q (by omega) (Or.inl h39)]
    exact f5 a q ha h39
  · have hb' : mm_p (mm_Y n xs) M 26 j = some b := by rw [hA.p26 hn j]; exact hb
    have hat := hD.at hj hb'
    rw [hX.I (atc_ne hat (by decide)) (atc_ne hat (by decide)) (atc_ne hat (by decide)) (atc_ne hat (by decide)) (atc_ne hat (by decide)) (atc_ne hat (by decide)), k1 b (atc_ne hat (by decide)) (by rcases awo j b hj hb' with w | w <;> omega)]
    exact f6 j b hj hb
  · refine W2a.mv (M1 := M1) (fun a _ _ => sha a) (by omega) (fun a q _ _ => rfa a q) ?_ ?_ W2a.2.1 W2a.2.2.2.1 W2a.2.2.2.2.2.2.1 W2a.2.2.2.2.2.2.2.1
    · rw [hX.I (by decide) (by decide) (by decide) (by decide) (by decide) (by decide)]; exact k2
    · rw [hX.I (by decide) (by decide) (by decide) (by decide) (by decide) (by decide)]; exact k3
  · refine CP.mv W2a (hK.cp hW hC) (fun q => rfa 39 q) (fun i o' hi' e => ?_)
    obtain ⟨o2, e2, B2⟩ := W2a.2.2.2.2.2.2.2.2.2.1 i hi'
    have : o2 = o' := Option.some.inj (e2.symm.trans e)
    subst this
    have := B2.1
    exact ⟨hi _ (by omega), hi _ (by omega), hi _ (by omega)⟩
  · rw [p26] at hb
    obtain ⟨c1, c2, c3⟩ := hD j b hj hb
    refine ⟨by omega, c2, fun i o' hi' e => ?_⟩
    by_cases q : i = p
    · subst q
      have : o' = o := by
        have e' : mm_p (mm_Y n xs) M1 39 i = mm_p (mm_Y n xs) Ma 39 i := by rw [p_39, p_39]; exact rfa 39 i
        exact Option.some.inj ((e.symm.trans e').trans k7)
      subst this
      rcases awo j b hj hb with w | w
      · left; omega
      · exact w
    · have w5 := hW.2.2.2.2.1
      have e' : mm_p (mm_Y n xs) M1 39 i = mm_p (mm_Y n xs) M 39 i := by rw [p_39, p_39, rfa]; exact k8 39 i (by omega) (Or.inr q)
      refine c3 i o' ?_ (e'.symm.trans e)
      rcases k11 with ⟨q1, q2, -⟩ | ⟨q1, q2, -⟩ <;> omega
  · rcases k11 with ⟨-, q2, -, q4, -⟩ | ⟨-, q2, -, q4, -⟩ <;> omega
  · rcases k11 with ⟨-, q2, -, -, q5⟩ | ⟨-, q2, -, -, q5⟩ <;> omega
theorem IV.xr (hI : IV n xs N gv M nc nm k p z h bs rs Dk im) : XR n xs M h M p z h bs := ⟨XA.rf, hI.2.2.1, hI.2.2.2.1, hI.2.2.2.2.2.2.2.2.2.2.2.2.2.2.1, rfl, rfl⟩
theorem IV.n87 (hI : IV n xs N gv M nc nm k p z h bs rs Dk im) : 87 ≤ mm_n M := hI.2.2.1.2.2.2.2.1
theorem MP.bm (hM : MP M z rs) (hB : BM M M1) : MP M1 z rs := by
  obtain ⟨x1, x2⟩ := hM
  refine ⟨?_, fun k hk x hx => ?_⟩
  · rw [hB.I (by decide) (by decide) (by decide) (by decide)]; exact x1
  · rw [hB.I (by decide) (by decide) (by decide) (by decide)]; exact x2 k hk x hx
theorem MP.xa (hM : MP M z rs) (hA : XA n xs M M1) : MP M1 z rs := by
  obtain ⟨x1, x2⟩ := hM
  refine ⟨?_, fun k hk x hx => ?_⟩
  · rw [hA.1 60 (by decide) (by decide) (by decide) (by decide) (by decide) (by decide) (by decide) (by decide)]; exact x1
  · rw [hA.1 79 (by decide) (by decide) (by decide) (by decide) (by decide) (by decide) (by decide) (by decide)]; exact x2 k hk x hx
theorem IV.asm {p' z' h' : Nat} {bs' rs' : Nat → Nat → Int32} {Dk' : Nat → Nat} (hI : IV n xs N gv M nc nm k p z h bs rs Dk im) (hX : XR n xs M h M1 p' z' h' bs') (hM : MA M1 M2) (hMP : MP M2 z' rs') (hRB : RBf (mm_I M 33) nc nm (nowX M1) (mm_I M2 77)) (hRL : RLf (mm_I M1 41) (mm_I M2 77) (Dk' 0)) (h8 : mm_I M1 35 8 = nI (Dk' 0)) (hD : Dk' 0 ≤ 999 ∧ TS nc (nowX M1)) (hk : ∀ j, j < z' → RZ (mm_I M 33) nc nm (mm_I M1 41) (bs' j) (rs' j) (Dk' (j + 1)) ∧ Dk' (j + 1) ≤ Dk' j ∧ Dk' j ≤ Dk' (j + 1) + 1) : FA n xs M M2 ∧ IV n xs N gv M2 nc nm k p' z' h' bs' rs' Dk' im := by
  obtain ⟨i1, i2, i3, i4, i5, i6, i7, i8, i9, ⟨i10, i11, i12⟩, i13, ⟨i14, i15⟩, i16, i17, i18, i19⟩ := hI
  have hn : 87 ≤ mm_n M := i3.2.2.2.2.1
  have nc4 := i1.nc4
  obtain ⟨hA, hW, hC, hCD, hnn, hzz⟩ := hX
  have low : ∀ a, a < 87 → a ≠ 38 → a ≠ 25 → a ≠ 31 → a ≠ 35 → a ≠ 36 → a ≠ 37 → a ≠ 41 → a ≠ 60 → a ≠ 69 → a ≠ 70 → a ≠ 77 → a ≠ 79 → a ≠ 80 → mm_I M2 a = mm_I M a := fun a ha a0 a1 a2 a3 a4 a5 a6 a7 a8 a9 a10 a11 a12 => (hM.I a7 a8 a9 a10 a11 a12).trans (hA.1 a ha a1 a2 a3 a4 a5 a0 a6)
  have from1 : ∀ a, a ≠ 60 → a ≠ 69 → a ≠ 70 → a ≠ 77 → a ≠ 79 → a ≠ 80 → mm_I M2 a = mm_I M1 a := fun a a7 a8 a9 a10 a11 a12 => hM.I a7 a8 a9 a10 a11 a12
  have m60 : ∀ q, q ≠ 32 → mm_I M2 60 q = mm_I M 60 q := fun q hq => by rw [hM.2.2.2.2.2 q hq, hA.1 60 (by decide) (by decide) (by decide) (by decide) (by decide) (by decide) (by decide) (by decide)]
  have n2 : mm_n M2 = mm_n M1 := hM.2.1
  have z2 : mm_z M2 = mm_z M1 := hM.2.2.1
  have rfa : ∀ a k, M2.2.2.2.2.2 a k = M1.2.2.2.2.2 a k := fun a k => congrFun (congrFun hM.2.2.2.1 a) k
  have sha : ∀ a, M2.1 a = M1.1 a := fun a => congrFun hM.1 a
  have fa : FA n xs M M2 := by
    have f := hA.fa
    refine f.tr hn ⟨fun a _ hat => from1 a (atc_ne hat (by decide)) (atc_ne hat (by decide)) (atc_ne hat (by decide)) (atc_ne hat (by decide)) (atc_ne hat (by decide)) (atc_ne hat (by decide)), fun q _ => by rw [from1 25 (by decide) (by decide) (by decide) (by decide) (by decide) (by decide)], fun q _ hq => hM.2.2.2.2.2 q (by omega), fun q _ _ => by rw [from1 16 (by decide) (by decide) (by decide) (by decide) (by decide) (by decide)], by omega, fun a _ => sha a, fun a q _ _ => rfa a q, fun j b hj hb => ?_⟩
    have hat := hCD.at hj hb
    exact from1 b (atc_ne hat (by decide)) (atc_ne hat (by decide)) (atc_ne hat (by decide)) (atc_ne hat (by decide)) (atc_ne hat (by decide)) (atc_ne hat (by decide))
  have e33 : mm_I M2 33 = mm_I M 33 := fa.1 33 (by decide) (by decide)
  have e41 : mm_I M2 41 = mm_I M1 41 := from1 41 (by decide) (by decide) (by decide) (by decide) (by decide) (by decide)
  have now2 : nowX M2 = nowX M1 := by
    unfold nowX
    rw [from1 35 (by decide) (by decide) (by decide) (by decide) (by decide) (by decide), from1 36 (by decide) (by decide) (by decide) (by decide) (by decide) (by decide), from1 37 (by decide) (by decide) (by decide) (by decide) (by decide) (by decide)]
  have hRB2 : RB M2 nc nm := (RB_f nc4).mpr (by rw [e33, now2]; exact hRB)
  have lw : lwN M2 = lwN M := by unfold lwN; rw [fa.2.1 1 (by decide)]
  refine ⟨fa, i1.fa hn (fun j b hj hb => (i18 j b hj hb).1) fa hRB2, ?_, ?_, ?_, hMP, ?_, ?_, ⟨hD.1, by rw [now2]; exact hD.2⟩, ?_, ⟨?_, ?_, ?_⟩, ?_, ⟨?_, ?_⟩, ?_, ?_, ?_, i19.1, ?_, ?_⟩
  · unfold RS at i2 ⊢
    rw [low 47 (by decide) (by decide) (by decide) (by decide) (by decide) (by decide) (by decide) (by decide) (by decide) (by decide) (by decide) (by decide) (by decide) (by decide), low 48 (by decide) (by decide) (by decide) (by decide) (by decide) (by decide) (by decide) (by decide) (by decide) (by decide) (by decide) (by decide) (by decide) (by decide), low 49 (by decide) (by decide) (by decide) (by decide) (by decide) (by decide) (by decide) (by decide) (by decide) (by decide) (by decide) (by decide) (by decide) (by decide), low 50 (by decide) (by decide) (by decide) (by decide) (by decide) (by decide) (by decide) (by decide) (by decide) (by decide) (by decide) (by decide) (by decide) (by decide), low 51 (by decide) (by decide) (by decide) (by decide) (by decide) (by decide) (by decide) (by decide) (by decide) (by decide) (by decide) (by decide) (by decide) (by decide), low 81 (by decide) (by decide) (by decide) (by decide) (by decide) (by decide) (by decide) (by decide) (by decide) (by decide) (by decide) (by decide) (by decide) (by decide), low 82 (by decide) (by decide) (by decide) (by decide) (by decide) (by decide) (by decide) (by decide) (by decide) (by decide) (by decide) (by decide) (by decide) (by decide), low 83 (by decide) (by decide) (by decide) (by decide) (by decide) (by decide) (by decide) (by decide) (by decide) (by decide) (by decide) (by decide) (by decide) (by decide), low 84 (by decide) (by decide) (by decide) (by decide) (by decide) (by decide) (by decide) (by decide) (by decide) (by decide) (by decide) (by decide) (by decide) (by decide), m60 43 (by decide)]
    exact i2
  · refine hW.mv (M1 := M2) (fun a _ _ => sha a) (by omega) (fun a q _ _ => rfa a q) ?_ ?_ hW.2.1 hW.2.2.2.1 hW.2.2.2.2.2.2.1 hW.2.2.2.2.2.2.2.1
    · rw [from1 38 (by decide) (by decide) (by decide) (by decide) (by decide) (by decide)]; exact hW.1
    · rw [from1 38 (by decide) (by decide) (by decide) (by decide) (by decide) (by decide)]; exact hW.2.2.1
  · refine CP.mv hW hC (fun q => rfa 39 q) (fun i o' hi' e => ?_)
    obtain ⟨o2, e2, B2⟩ := hW.2.2.2.2.2.2.2.2.2.1 i hi'
    have : o2 = o' := Option.some.inj (e2.symm.trans e)
    subst this
    have := B2.1
    exact ⟨from1 _ (by omega) (by omega) (by omega) (by omega) (by omega) (by omega), from1 _ (by omega) (by omega) (by omega) (by omega) (by omega) (by omega), from1 _ (by omega) (by omega) (by omega) (by omega) (by omega) (by omega)⟩
  · rw [e41]; exact hRL
  · rw [from1 35 (by decide) (by decide) (by decide) (by decide) (by decide) (by decide)]; exact h8
  · rw [e33, e41]; exact hk
  · rw [low 16 (by decide) (by decide) (by decide) (by decide) (by decide) (by decide) (by decide) (by decide) (by decide) (by decide) (by decide) (by decide) (by decide) (by decide)]; exact i10
  · rw [m60 45 (by decide)]; exact i11
  · intro hm
    rw [e33, low 46 (by decide) (by decide) (by decide) (by decide) (by decide) (by decide) (by decide) (by decide) (by decide) (by decide) (by decide) (by decide) (by decide) (by decide), low 42 (by decide) (by decide) (by decide) (by decide) (by decide) (by decide) (by decide) (by decide) (by decide) (by decide) (by decide) (by decide) (by decide) (by decide), low 43 (by decide) (by decide) (by decide) (by decide) (by decide) (by decide) (by decide) (by decide) (by decide) (by decide) (by decide) (by decide) (by decide) (by decide), low 44 (by decide) (by decide) (by decide) (by decide) (by decide) (by decide) (by decide) (by decide) (by decide) (by decide) (by decide) (by decide) (by decide) (by decide), low 85 (by decide) (by decide) (by decide) (by decide) (by decide) (by decide) (by decide) (by decide) (by decide) (by decide) (by decide) (by decide) (by decide) (by decide)]
    exact i12 hm
  · intro i hi'
    rw [low 57 (by decide) (by decide) (by decide) (by decide) (by decide) (by decide) (by decide) (by decide) (by decide) (by decide) (by decide) (by decide) (by decide) (by decide), low 78 (by decide) (by decide) (by decide) (by decide) (by decide) (by decide) (by decide) (by decide) (by decide) (by decide) (by decide) (by decide) (by decide) (by decide)]
    exact i13 i hi'
  · rw [low 16 (by decide) (by decide) (by decide) (by decide) (by decide) (by decide) (by decide) (by decide) (by decide) (by decide) (by decide) (by decide) (by decide) (by decide), m60 30 (by decide)]; exact i14
  · rw [m60 30 (by decide)]; exact i15
  · rw [low 54 (by decide) (by decide) (by decide) (by decide) (by decide) (by decide) (by decide) (by decide) (by decide) (by decide) (by decide) (by decide) (by decide) (by decide)]; exact i16
  · rw [low 55 (by decide) (by decide) (by decide) (by decide) (by decide) (by decide) (by decide) (by decide) (by decide) (by decide) (by decide) (by decide) (by decide) (by decide)]; exact i17
  · intro j b hj hb
    have e26 : mm_p (mm_Y n xs) M2 26 j = mm_p (mm_Y n xs) M1 26 j := by unfold mm_p; rw [rfa]
    rw [e26] at hb
    obtain ⟨c1, c2, c3⟩ := hCD j b hj hb
    exact ⟨by omega, c2, fun i o' hi' e => c3 i o' hi' (by rw [p_39] at e ⊢; rw [← rfa]; exact e)⟩
  · obtain ⟨-, y1, y2⟩ := i19
    rw [lw, n2]; omega
  · obtain ⟨-, y1, y2⟩ := i19
    rw [lw, z2]; omega
/-- both at rest, and all that is kept -/
def PZ (e : Nat → Int32) (nc nm : Nat) (dy b r : Nat → Int32) (z : Nat) (bs rs : Nat → Nat → Int32) (Dk : Nat → Nat) : Prop := RZ e nc nm dy b r (Dk 0) ∧ ∀ j, j < z → RZ e nc nm dy (bs j) (rs j) (Dk (j + 1)) ∧ Dk (j + 1) ≤ Dk j ∧ Dk j ≤ Dk (j + 1) + 1
theorem PZ.step {e dy dy' b b' r r' : Nat → Int32} {D' : Nat} (h4 : nc ≤ 4) (h : PZ e nc nm dy b r z bs rs Dk) (hz : z ≤ 40) (hZ : RZ e nc nm dy' b' r' D') (hD : Dk 0 ≤ D' ∧ D' ≤ Dk 0 + 1) (hdy : ∀ x, x / 3 ≠ Dk 0 % 100 → dy' x = dy x) : PZ e nc nm dy' b' r' (min 40 (z + 1)) (cns b bs) (cns r rs) (cns D' Dk) := by
  obtain ⟨a1, a2⟩ := h
  have dk := Dk_le (Dk := Dk) (z := z) (fun j hj => (a2 j hj).2)
  have dyj : ∀ j, j ≤ z → j ≤ 39 → ∀ i w, i < min 60 (Dk j) → w < 3 → dy' ((Dk j - 1 - i) % 100 * 3 + w) = dy ((Dk j - 1 - i) % 100 * 3 + w) := by
    intro j hj h39 i w hi' hw
    have := dk j hj
    exact hdy _ (day_ne this.1 (by omega) hi' hw)
  refine ⟨hZ, fun j hj => ?_⟩
  cases j with
  | zero =>
    rw [cns_0, cns_0, cns_0, cns_s]
    exact ⟨a1.cg h4 rfl (fun _ _ => rfl) (fun _ _ => rfl) (fun i w hi' hw => dyj 0 (by omega) (by omega) i w hi' hw), hD.1, hD.2⟩
  | succ j =>
    rw [cns_s, cns_s, cns_s, cns_s]
    obtain ⟨y1, y2, y3⟩ := a2 j (by omega)
    exact ⟨y1.cg h4 rfl (fun _ _ => rfl) (fun _ _ => rfl) (fun i w hi' hw => dyj (j + 1) (by omega) (by omega) i w hi' hw), y2, y3⟩
theorem IV.pz (hI : IV n xs N gv M nc nm k p z h bs rs Dk im) : PZ (mm_I M 33) nc nm (mm_I M 41) (nowX M) (mm_I M 77) z bs rs Dk := by
  have nc4 := hI.1.nc4
  obtain ⟨i1, i2, i3, i4, i5, i6, i7, i8, i9, i10, i13, i14, i16, i17, i18, i19⟩ := hI
  exact ⟨⟨(RB_f nc4).mp i1.2.1, i6, (bow_b (by decide)).trans i7, i8⟩, i9⟩
theorem IV.fin {p' z' h' : Nat} {bs' rs' : Nat → Nat → Int32} {Dk' : Nat → Nat} (hI : IV n xs N gv M nc nm k p z h bs rs Dk im) (hX : XR n xs M h M1 p' z' h' bs') (hM : MA M1 M2) (hMP : MP M2 z' rs') (hP : PZ (mm_I M 33) nc nm (mm_I M1 41) (nowX M1) (mm_I M2 77) z' bs' rs' Dk') : FA n xs M M2 ∧ IE n xs N gv M2 nc nm := by
  have r := hI.asm hX hM hMP hP.1.1 hP.1.2.1 ((bow_b (by decide)).symm.trans hP.1.2.2.1) ⟨hP.1.2.2.2.1, hP.1.2.2.2.2⟩ hP.2
  exact ⟨r.1, _, _, _, _, _, _, _, _, r.2⟩
/-- states one behind the other, and what is kept of them -/
def itS {σ : Type} (S : σ → σ) : Nat → σ → σ
  | 0, s => s
  | j + 1, s => itS S j (S s)
def itK {σ : Type} (S : σ → σ) (pr : σ → Nat → Int32) : Nat → σ → (Nat → Nat → Int32) → Nat → Nat → Int32
  | 0, _, bs => bs
  | j + 1, s, bs => itK S pr j (S s) (cns (pr s) bs)
theorem PZ.it {σ τ : Type} {e : Nat → Int32} {S : σ → σ} {T : τ → τ} {dyO bO : σ → Nat → Int32} {rO : τ → Nat → Int32} (h4 : nc ≤ 4) (R : σ → τ → Prop) (L : Nat) (step : ∀ s t D, R s t → D < L → RZ e nc nm (dyO s) (bO s) (rO t) D → R (S s) (T t) ∧ ∃ D', RZ e nc nm (dyO (S s)) (bO (S s)) (rO (T t)) D' ∧ D ≤ D' ∧ D' ≤ D + 1 ∧ ∀ x, x / 3 ≠ D % 100 → dyO (S s) x = dyO s x) : ∀ (j : Nat) (s : σ) (t : τ) (z : Nat) (bs rs : Nat → Nat → Int32) (Dk : Nat → Nat), R s t → z ≤ 40 → Dk 0 + j ≤ L → PZ e nc nm (dyO s) (bO s) (rO t) z bs rs Dk → R (itS S j s) (itS T j t) ∧ ∃ Dk', PZ e nc nm (dyO (itS S j s)) (bO (itS S j s)) (rO (itS T j t)) (min 40 (z + j)) (itK S bO j s bs) (itK T rO j t rs) Dk'
  | 0, s, t, z, bs, rs, Dk, hR, hz, _, h => ⟨hR, Dk, by rw [Nat.add_zero, Nat.min_eq_right hz]; exact h⟩
  | j + 1, s, t, z, bs, rs, Dk, hR, hz, hL, h => by
    obtain ⟨hR', D', hZ, d1, d2, hdy⟩ := step s t (Dk 0) hR (by omega) h.1
    have h1 := h.step h4 hz hZ ⟨d1, d2⟩ hdy
    obtain ⟨q1, Dk', q2⟩ := PZ.it h4 R L step j (S s) (T t) (min 40 (z + 1)) _ _ _ hR' (by omega) (by rw [cns_0]; omega) h1
    refine ⟨q1, Dk', ?_⟩
    rw [show min 40 (z + (j + 1)) = min 40 (min 40 (z + 1) + j) by omega]
    exact q2
end LO
