/-! both keep: what is known then -/
section GO
variable {n : Nat} {xs : Nat → Int32} {N : Nat} {gv : Int32 → Int32 → Int32 → Int32 → Int32} {M M' Ma M1 Mb M2 : mmM} {nc nm k p z h h1 o : Nat} {bs rs : Nat → Nat → Int32} {Dk : Nat → Nat} {im : Bool}
theorem atc_ne {a b : Nat} (ha : atc a = false) (hb : atc b = true) : a ≠ b := fun e => by subst e; rw [ha] at hb; cases hb
theorem KX.fa (hI : IV n xs N gv M nc nm k p z h bs rs Dk im) (hK : KX n xs M Ma p z h h1 o) : FA n xs M Ma := by
  obtain ⟨i1, i2, i3, i4, i5, i6, i7, i8, i9, i10, i13, i14, i16, i17, i18, i19⟩ := hI
  have hn : 87 ≤ mm_n M := i3.2.2.2.2.1
  obtain ⟨k1, k2, k3, k4, k5, k6, k7, k8, k9, k10, k11⟩ := id hK
  have o87 : 87 ≤ o := k6.1
  have low : ∀ a, a < 87 → a ≠ 38 → mm_I Ma a = mm_I M a := fun a ha a0 => k1 a a0 (by omega)
  refine ⟨fun a ha hat => low a ha (atc_ne hat (by decide)), fun q _ => by rw [low 25 (by decide) (by decide)], fun q _ _ => by rw [low 60 (by decide) (by decide)], fun q _ _ => by rw [low 16 (by decide) (by decide)], ?_, k9, fun a q ha h39 => k8 a q ha (Or.inl h39), fun j b hj hb => ?_⟩
  · rcases k11 with ⟨-, -, -, q, -⟩ | ⟨-, -, -, q, -⟩ <;> omega
  · obtain ⟨c1, c2, c3⟩ := i18 j b hj hb
    by_cases q : b < 87
    · exact low b q (atc_ne (c2 q) (by decide))
    · refine k1 b (by omega) ?_
      rcases k11 with ⟨q1, -, q3, -, -⟩ | ⟨-, -, q3, -, -⟩
      · exact c3 p o q1 q3
      · left; omega
theorem CT.fa3 (hI : IV n xs N gv M nc nm k p z h bs rs Dk im) (f : FA n xs M M') : RT M' nc nm ∧ GX n xs N gv M' ∧ GM n xs N gv M' := by
  obtain ⟨i1, i2, i3, i4, i5, i6, i7, i8, i9, i10, i13, i14, i16, i17, i18, i19⟩ := hI
  have hn : 87 ≤ mm_n M := i3.2.2.2.2.1
  obtain ⟨h1, h2, h3, h4, h5, h6⟩ := i1
  refine ⟨h1.fa f, ?_, ?_⟩
  · intro M0 q
    refine h3 M0 ⟨q.1.trans (f.1 33 (by decide) (by decide)), fun k hk => (q.2.1 k hk).trans (f.2.1 k hk), fun j hj => (q.2.2.1 j hj).trans (f.p26 hn j), fun j b hj hb => ?_⟩
    obtain ⟨a1, a2⟩ := q.2.2.2 j b hj ((f.p26 hn j).trans hb)
    refine ⟨a1.trans ?_, a2.trans (f.2.2.2.2.2.2.2 j b hj hb)⟩
    unfold mm_s
    rw [f.2.2.2.2.2.1 b (i18 j b hj hb).1]
  · intro M0 q
    have hat : ∀ a, a < 69 → 62 ≤ a → atc a = false := by decide
    exact h4 M0 ⟨fun a g1 g2 => (q.1 a g1 g2).trans (f.1 a (by omega) (hat a (by omega) g1)), q.2.1.trans (f.1 74 (by decide) (by decide)), q.2.2.trans (f.2.2.1 29 (by decide) (by omega))⟩
/-- the codes of laws, wherever acts have been -/
theorem FA.cd (hI : IV n xs N gv M nc nm k p z h bs rs Dk im) (f : FA n xs M M') : ∀ j b, j < 4 → mm_p (mm_Y n xs) M' 26 j = some b → atc b = false := by
  have hn : 87 ≤ mm_n M := hI.2.2.1.2.2.2.2.1
  obtain ⟨i1, i2, i3, i4, i5, i6, i7, i8, i9, i10, i13, i14, i16, i17, i18, i19⟩ := hI
  intro j b hj hb
  rw [f.p26 hn j] at hb
  obtain ⟨c1, c2, c3⟩ := i18 j b hj hb
  by_cases q : b < 87
  · exact c2 q
  · exact atc_hi (by omega)
theorem FA.bx (hI : IV n xs N gv M nc nm k p z h bs rs Dk im) (f : FA n xs M M') (g : BX M' M1) : FA n xs M M1 := by
  have hn : 87 ≤ mm_n M := hI.2.2.1.2.2.2.2.1
  refine f.tr hn ⟨fun a _ hat => g.I (atc_ne hat (by decide)) (atc_ne hat (by decide)) (atc_ne hat (by decide)) (atc_ne hat (by decide)) (atc_ne hat (by decide)) (atc_ne hat (by decide)), g.2.2.2.2.2, fun q _ _ => by rw [g.I (by decide) (by decide) (by decide) (by decide) (by decide) (by decide)], fun q _ _ => by rw [g.I (by decide) (by decide) (by decide) (by decide) (by decide) (by decide)], by rw [show mm_n M1 = mm_n M' from g.2.1]; exact Nat.le_refl _, fun a _ => congrFun g.1 a, fun a q _ _ => congrFun (congrFun g.2.2.2.1 a) q, fun j b hj hb => ?_⟩
  have hat := f.cd hI j b hj hb
  exact g.I (atc_ne hat (by decide)) (atc_ne hat (by decide)) (atc_ne hat (by decide)) (atc_ne hat (by decide)) (atc_ne hat (by decide)) (atc_ne hat (by decide))
theorem FA.s2 (hI : IV n xs N gv M nc nm k p z h bs rs Dk im) (f : FA n xs M M') (g : S2 79 60 32 M' M1) : FA n xs M M1 := by
  have hn : 87 ≤ mm_n M := hI.2.2.1.2.2.2.2.1
  refine f.tr hn ⟨fun a _ hat => g.2.2.2.2.2.1 a (atc_ne hat (by decide)) (atc_ne hat (by decide)), fun q _ => by rw [g.2.2.2.2.2.1 25 (by decide) (by decide)], fun q _ hq => g.2.2.2.2.2.2 q (by omega), fun q _ _ => by rw [g.2.2.2.2.2.1 16 (by decide) (by decide)], by rw [show mm_n M1 = mm_n M' from g.2.1]; exact Nat.le_refl _, fun a _ => congrFun g.1 a, fun a q _ _ => congrFun (congrFun g.2.2.2.2.1 a) q, fun j b hj hb => ?_⟩
  have hat := f.cd hI j b hj hb
  exact g.2.2.2.2.2.1 b (atc_ne hat (by decide)) (atc_ne hat (by decide))
theorem goX (hI : IV n xs N gv M nc nm k p z h bs rs Dk im) (d : Nat) : ∃ Ma h1 o, mm_E n xs N (d + 3) 52 [.ref 38, .ref 35] M = some (none, Ma) ∧ KX n xs M Ma p z h h1 o ∧ FA n xs M Ma ∧ CT n xs N gv Ma nc nm ∧ ∀ a, a < 87 → a ≠ 38 → mm_I Ma a = mm_I M a := by
  obtain ⟨Ma, h1, o, e, hK⟩ := E_keepX (n := n) (xs := xs) (N := N) d hI.2.2.1
  have fa := hK.fa hI
  have o87 : 87 ≤ o := hK.2.2.2.2.2.1.1
  have low : ∀ a, a < 87 → a ≠ 38 → mm_I Ma a = mm_I M a := fun a ha a0 => hK.1 a a0 (by omega)
  refine ⟨Ma, h1, o, e, hK, fa, ?_, low⟩
  exact hI.1.fa hI.2.2.1.2.2.2.2.1 (fun j b hj hb => (hI.2.2.2.2.2.2.2.2.2.2.2.2.2.2.1 j b hj hb).1) fa (hI.1.2.1.mv (low 35 (by decide) (by decide)) (low 36 (by decide) (by decide)) (low 37 (by decide) (by decide)) (low 77 (by decide) (by decide)) (low 33 (by decide) (by decide)))
theorem goM (hI : IV n xs N gv M nc nm k p z h bs rs Dk im) (d : Nat) (hK : KX n xs M Ma p z h h1 o) (hX : BX Ma M1) : ∃ Mb, mm_E n xs N (d + 1) 241 [.ref 60] M1 = some (none, Mb) ∧ S2 79 60 32 M1 Mb ∧ MP Mb (min 40 (z + 1)) (cns (mm_I M1 77) rs) ∧ FA n xs M Mb ∧ RT Mb nc nm ∧ GM n xs N gv Mb ∧ mm_I Mb 77 = mm_I M 77 := by
  have o87 : 87 ≤ o := hK.2.2.2.2.2.1.1
  have low : ∀ a, a < 87 → a ≠ 38 → mm_I Ma a = mm_I M a := fun a ha a0 => hK.1 a a0 (by omega)
  have hMP : MP M1 z rs := by
    obtain ⟨x1, x2⟩ := hI.2.2.2.2.1
    have e60 : mm_I M1 60 = mm_I M 60 := (hX.I (by decide) (by decide) (by decide) (by decide) (by decide) (by decide)).trans (low 60 (by decide) (by decide))
    have e79 : mm_I M1 79 = mm_I M 79 := (hX.I (by decide) (by decide) (by decide) (by decide) (by decide) (by decide)).trans (low 79 (by decide) (by decide))
    refine ⟨by rw [e60]; exact x1, ?_⟩
    rw [e79]
    exact x2
  obtain ⟨Mb, e, s, m⟩ := E_keepM (n := n) (xs := xs) (N := N) hI.nN d hI.2.2.1.2.2.2.1 hMP
  have fb := ((hK.fa hI).bx hI hX).s2 hI s
  have g := CT.fa3 hI fb
  refine ⟨Mb, e, s, m, fb, g.1, g.2.2, ?_⟩
  rw [s.2.2.2.2.2.1 77 (by decide) (by decide), hX.I (by decide) (by decide) (by decide) (by decide) (by decide) (by decide), low 77 (by decide) (by decide)]
theorem IV.ct57 (hI : IV n xs N gv M nc nm k p z h bs rs Dk im) {i : Nat} {v : Int32} : CT n xs N gv (mm_wI M 57 i v) nc nm := by
  have fI : ∀ a, a ≠ 57 → mm_I (mm_wI M 57 i v) a = mm_I M a := fun a a1 => I_wn a1
  have u := hI.upd (M' := mm_wI M 57 i v) rfl rfl rfl (fun a ha => fI a (atc_ne ha (by decide))) (fun q _ => by rw [fI 25 (by decide)]) (fun q _ _ => by rw [fI 60 (by decide)]) (fun q _ _ => by rw [fI 16 (by decide)])
  exact u.2.1 (hI.1.2.1.mv (fI 35 (by decide)) (fI 36 (by decide)) (fI 37 (by decide)) (fI 77 (by decide)) (fI 33 (by decide)))
end GO
