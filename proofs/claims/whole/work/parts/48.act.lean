/-! one act of both -/
/-- how many laws there are -/
def lwN (M : mmM) : Nat := (mm_I M 25 1).toInt.toNat
def IV (n : Nat) (xs : Nat → Int32) (N : Nat) (gv : Int32 → Int32 → Int32 → Int32 → Int32) (M : mmM) (nc nm k p z h : Nat) (bs rs : Nat → Nat → Int32) (Dk : Nat → Nat) (im : Bool) : Prop :=
  CT n xs N gv M nc nm ∧ RS M nc k ∧ WR n xs M p z h ∧ CP n xs M p z bs ∧ MP M z rs ∧ RLf (mm_I M 41) (mm_I M 77) (Dk 0) ∧ mm_I M 35 8 = nI (Dk 0) ∧ (Dk 0 ≤ 999 ∧ TS nc (nowX M)) ∧
  (∀ j, j < z → RZ (mm_I M 33) nc nm (mm_I M 41) (bs j) (rs j) (Dk (j + 1)) ∧ Dk (j + 1) ≤ Dk j ∧ Dk j ≤ Dk (j + 1) + 1) ∧
  (mm_I M 16 17 = mb im ∧ mm_I M 60 45 = mb im ∧ (im = true → ∃ D, RZ (mm_I M 33) nc nm (mm_I M 46) (bow (mm_I M 42) (mm_I M 43) (mm_I M 44)) (mm_I M 85) D)) ∧
  (∀ i, i < 5 → mm_I M 57 i = mm_I M 78 i) ∧ (mm_I M 16 18 = mm_I M 60 30 ∧ bd 0 9 (mm_I M 60 30)) ∧ mm_I M 54 0 = 0 ∧ mm_I M 55 0 = 0 ∧ CD n xs M h ∧ (10000 ≤ N ∧ mm_n M ≤ 87 + lwN M + 3 * h ∧ mm_z M ≤ 100000 + 240 * lwN M + 19 * h)
/-- the class's work on its bowl -/
def BX (M M' : mmM) : Prop := M'.1 = M.1 ∧ M'.2.1 = M.2.1 ∧ M'.2.2.1 = M.2.2.1 ∧ M'.2.2.2.2.2 = M.2.2.2.2.2 ∧ (∀ a, a ≠ 25 → a ≠ 31 → a ≠ 35 → a ≠ 36 → a ≠ 37 → a ≠ 41 → mm_I M' a = mm_I M a) ∧ ∀ k, k < 4 → mm_I M' 25 k = mm_I M 25 k
def BM (M M' : mmM) : Prop := M'.1 = M.1 ∧ M'.2.1 = M.2.1 ∧ M'.2.2.1 = M.2.2.1 ∧ M'.2.2.2.2.2 = M.2.2.2.2.2 ∧ ∀ a, a ≠ 69 → a ≠ 70 → a ≠ 77 → a ≠ 80 → mm_I M' a = mm_I M a
theorem BX.rf {M : mmM} : BX M M := ⟨rfl, rfl, rfl, rfl, fun _ _ _ _ _ _ _ => rfl, fun _ _ => rfl⟩
theorem BM.rf {M : mmM} : BM M M := ⟨rfl, rfl, rfl, rfl, fun _ _ _ _ _ => rfl⟩
theorem BX.tr {M M' M'' : mmM} (h : BX M M') (g : BX M' M'') : BX M M'' := ⟨g.1.trans h.1, g.2.1.trans h.2.1, g.2.2.1.trans h.2.2.1, g.2.2.2.1.trans h.2.2.2.1, fun a a1 a2 a3 a4 a5 a6 => (g.2.2.2.2.1 a a1 a2 a3 a4 a5 a6).trans (h.2.2.2.2.1 a a1 a2 a3 a4 a5 a6), fun k hk => (g.2.2.2.2.2 k hk).trans (h.2.2.2.2.2 k hk)⟩
theorem BM.tr {M M' M'' : mmM} (h : BM M M') (g : BM M' M'') : BM M M'' := ⟨g.1.trans h.1, g.2.1.trans h.2.1, g.2.2.1.trans h.2.2.1, g.2.2.2.1.trans h.2.2.2.1, fun a a1 a2 a3 a4 => (g.2.2.2.2 a a1 a2 a3 a4).trans (h.2.2.2.2 a a1 a2 a3 a4)⟩
theorem BX.I {M M' : mmM} (h : BX M M') {a : Nat} (a1 : a ≠ 25) (a2 : a ≠ 31) (a3 : a ≠ 35) (a4 : a ≠ 36) (a5 : a ≠ 37) (a6 : a ≠ 41) : mm_I M' a = mm_I M a := h.2.2.2.2.1 a a1 a2 a3 a4 a5 a6
theorem BM.I {M M' : mmM} (h : BM M M') {a : Nat} (a1 : a ≠ 69) (a2 : a ≠ 70) (a3 : a ≠ 77) (a4 : a ≠ 80) : mm_I M' a = mm_I M a := h.2.2.2.2 a a1 a2 a3 a4
theorem BX.wI {M : mmM} {a k : Nat} {v : Int32} (h : a = 35 ∨ a = 36 ∨ a = 37 ∨ a = 41) : BX M (mm_wI M a k v) := ⟨rfl, rfl, rfl, rfl, fun b _ _ b3 b4 b5 b6 => I_wn (by omega), fun j _ => by rw [I_wn (by omega)]⟩
theorem BM.wI {M : mmM} {k : Nat} {v : Int32} : BM M (mm_wI M 77 k v) := ⟨rfl, rfl, rfl, rfl, fun b _ _ b3 _ => I_wn b3⟩
theorem SX.bx {M M' : mmM} (h : SX M M') : BX M M' := ⟨h.1, h.2.1, h.2.2.1, h.2.2.2.2.1, fun _ a1 a2 _ _ _ _ => h.I a1 a2, h.2.2.2.2.2.2⟩
theorem SN.bm {M M' : mmM} {r : Nat → Int32} (h : SN M M' r) : BM M M' := ⟨h.1, h.2.1, h.2.2.1, h.2.2.2.2.1, fun a a1 a2 a3 _ => h.2.2.2.2.2.1 a a1 a2 a3⟩
theorem S1.bm {M M' : mmM} (h : S1 77 M M') : BM M M' := ⟨h.1, h.2.1, h.2.2.1, h.2.2.2.2.1, fun a _ _ a3 _ => h.I a3⟩
section AC
variable {n : Nat} {xs : Nat → Int32} {N : Nat} {gv : Int32 → Int32 → Int32 → Int32 → Int32} {M M' Ma M1 Mb M2 : mmM} {nc nm k p z h h1 o : Nat} {bs rs : Nat → Nat → Int32} {Dk : Nat → Nat} {im : Bool}
theorem Dk_le {Dk : Nat → Nat} {z : Nat} (h : ∀ j, j < z → Dk (j + 1) ≤ Dk j ∧ Dk j ≤ Dk (j + 1) + 1) : ∀ j, j ≤ z → Dk j ≤ Dk 0 ∧ Dk 0 ≤ Dk j + j
  | 0, _ => by omega
  | j + 1, hj => by
    have h1 := Dk_le h j (by omega)
    have h2 := h j (by omega)
    omega
theorem IV.nN (hI : IV n xs N gv M nc nm k p z h bs rs Dk im) : 10000 ≤ N := hI.2.2.2.2.2.2.2.2.2.2.2.2.2.2.2.1
/-- a day's place in the diary is not of the days that are logged before it -/
theorem day_ne {D Dj i w : Nat} (h1 : Dj ≤ D) (h2 : D ≤ Dj + 39) (hi : i < min 60 Dj) (hw : w < 3) : ((Dj - 1 - i) % 100 * 3 + w) / 3 ≠ D % 100 := by omega
theorem act_ok (hI : IV n xs N gv M nc nm k p z h bs rs Dk im) (hK : KX n xs M Ma p z h h1 o) (hX : BX Ma M1) (hS : S2 79 60 32 M1 Mb) (hMP : MP Mb (min 40 (z + 1)) (cns (mm_I M1 77) rs)) (hB : BM Mb M2) {D' : Nat} (hRB : RBf (mm_I M 33) nc nm (nowX M1) (mm_I M2 77)) (hRL : RLf (mm_I M1 41) (mm_I M2 77) D') (hTS : TS nc (nowX M1)) (h8 : mm_I M1 35 8 = nI D') (hD : Dk 0 ≤ D' ∧ D' ≤ Dk 0 + 1 ∧ D' ≤ 999) (hdy : ∀ x, x / 3 ≠ Dk 0 % 100 → mm_I M1 41 x = mm_I M 41 x) : FA n xs M M2 ∧ IV n xs N gv M2 nc nm k ((p + 1) % 40) (min 40 (z + 1)) h1 (cns (nowX M) bs) (cns (mm_I M 77) rs) (cns D' Dk) im := by
  obtain ⟨i1, i2, i3, i4, i5, i6, i7, i8, i9, ⟨i10, i11, i12⟩, i13, ⟨i14, i15⟩, i16, i17, i18, i19⟩ := hI
  have hn : 87 ≤ mm_n M := i3.2.2.2.2.1
  obtain ⟨k1, k2, k3, k4, k5, k6, k7, k8, k9, k10, k11⟩ := id hK
  have o87 : 87 ≤ o := k6.1
  have nc4 := i1.nc4
  have hna : mm_n M ≤ mm_n Ma := by rcases k11 with ⟨-, -, -, q, -⟩ | ⟨-, -, -, q, -⟩ <;> omega
  have n1 : mm_n M1 = mm_n Ma := hX.2.1
  have nb : mm_n Mb = mm_n M1 := hS.2.1
  have n2 : mm_n M2 = mm_n Mb := hB.2.1
  -- cells below 87
  have lowX : ∀ a, a < 87 → a ≠ 38 → a ≠ 25 → a ≠ 31 → a ≠ 35 → a ≠ 36 → a ≠ 37 → a ≠ 41 → mm_I M1 a = mm_I M a := fun a ha a0 a1 a2 a3 a4 a5 a6 => (hX.I a1 a2 a3 a4 a5 a6).trans (k1 a a0 (by omega))
  have low : ∀ a, a < 87 → a ≠ 38 → a ≠ 25 → a ≠ 31 → a ≠ 35 → a ≠ 36 → a ≠ 37 → a ≠ 41 → a ≠ 60 → a ≠ 69 → a ≠ 70 → a ≠ 77 → a ≠ 79 → a ≠ 80 → mm_I M2 a = mm_I M a := fun a ha a0 a1 a2 a3 a4 a5 a6 a7 a8 a9 a10 a11 a12 => ((hB.I a8 a9 a10 a12).trans (hS.2.2.2.2.2.1 a a11 a7)).trans (lowX a ha a0 a1 a2 a3 a4 a5 a6)
  have from1 : ∀ a, a ≠ 60 → a ≠ 69 → a ≠ 70 → a ≠ 77 → a ≠ 79 → a ≠ 80 → mm_I M2 a = mm_I M1 a := fun a a7 a8 a9 a10 a11 a12 => (hB.I a8 a9 a10 a12).trans (hS.2.2.2.2.2.1 a a11 a7)
  have m60 : ∀ q, q ≠ 32 → mm_I M2 60 q = mm_I M 60 q := fun q hq => by rw [hB.I (by decide) (by decide) (by decide) (by decide), hS.2.2.2.2.2.2 q hq, lowX 60 (by decide) (by decide) (by decide) (by decide) (by decide) (by decide) (by decide) (by decide)]
  have hi : ∀ a, 87 ≤ a → mm_I M2 a = mm_I Ma a := fun a ha => ((hB.I (by omega) (by omega) (by omega) (by omega)).trans (hS.2.2.2.2.2.1 a (by omega) (by omega))).trans (hX.I (by omega) (by omega) (by omega) (by omega) (by omega) (by omega))
  have sh : ∀ a, a < mm_n M → M2.1 a = M.1 a := fun a ha => by rw [congrFun hB.1 a, congrFun hS.1 a, congrFun hX.1 a, k9 a ha]
  have rf2 : ∀ a k, a < mm_n M → (a ≠ 39 ∨ k ≠ p) → M2.2.2.2.2.2 a k = M.2.2.2.2.2 a k := fun a k ha hk => by rw [congrFun (congrFun hB.2.2.2.1 a) k, congrFun (congrFun hS.2.2.2.2.1 a) k, congrFun (congrFun hX.2.2.2.1 a) k, k8 a k ha hk]
  have rfa : ∀ a k, M2.2.2.2.2.2 a k = Ma.2.2.2.2.2 a k := fun a k => by rw [congrFun (congrFun hB.2.2.2.1 a) k, congrFun (congrFun hS.2.2.2.2.1 a) k, congrFun (congrFun hX.2.2.2.1 a) k]
  have sha : ∀ a, M2.1 a = Ma.1 a := fun a => by rw [congrFun hB.1 a, congrFun hS.1 a, congrFun hX.1 a]
  -- codes
  have awo : ∀ j b, j < 4 → mm_p (mm_Y n xs) M 26 j = some b → b < 87 ∨ (b < o ∨ o + 3 ≤ b) := by
    intro j b hj hb
    obtain ⟨c1, c2, c3⟩ := i18 j b hj hb
    rcases k11 with ⟨q1, -, q3, -, -⟩ | ⟨-, -, q3, -, -⟩
    · exact Or.inr (c3 p o q1 q3)
    · right; left; omega
  have at87 : ∀ a, atc a = false → a ≠ 38 ∧ a ≠ 25 ∧ a ≠ 31 ∧ a ≠ 35 ∧ a ≠ 36 ∧ a ≠ 37 ∧ a ≠ 41 ∧ a ≠ 60 ∧ a ≠ 69 ∧ a ≠ 70 ∧ a ≠ 77 ∧ a ≠ 79 ∧ a ≠ 80 := by
    intro a ha
    have ne : ∀ b, atc b = true → a ≠ b := fun b hb e => by subst e; rw [ha] at hb; cases hb
    exact ⟨ne 38 (by decide), ne 25 (by decide), ne 31 (by decide), ne 35 (by decide), ne 36 (by decide), ne 37 (by decide), ne 41 (by decide), ne 60 (by decide), ne 69 (by decide), ne 70 (by decide), ne 77 (by decide), ne 79 (by decide), ne 80 (by decide)⟩
  have fa : FA n xs M M2 := by
    refine ⟨fun a ha hat => ?_, fun q hq => ?_, fun q _ hq => m60 q (by omega), fun q _ _ => by rw [low 16 (by decide) (by decide) (by decide) (by decide) (by decide) (by decide) (by decide) (by decide) (by decide) (by decide) (by decide) (by decide) (by decide) (by decide)], by omega, sh, fun a q ha h39 => rf2 a q ha (Or.inl h39), fun j b hj hb => ?_⟩
    · obtain ⟨b1, b2, b3, b4, b5, b6, b7, b8, b9, b10, b11, b12, b13⟩ := at87 a hat
      exact low a ha b1 b2 b3 b4 b5 b6 b7 b8 b9 b10 b11 b12 b13
    · rw [from1 25 (by decide) (by decide) (by decide) (by decide) (by decide) (by decide), hX.2.2.2.2.2 q hq, k1 25 (by decide) (by omega)]
    · obtain ⟨c1, c2, c3⟩ := i18 j b hj hb
      by_cases q : b < 87
      · obtain ⟨b1, b2, b3, b4, b5, b6, b7, b8, b9, b10, b11, b12, b13⟩ := at87 b (c2 q)
        exact low b q b1 b2 b3 b4 b5 b6 b7 b8 b9 b10 b11 b12 b13
      · rw [hi b (by omega)]
        exact k1 b (by omega) (by rcases awo j b hj hb with w | w <;> omega)
  have e33 : mm_I M2 33 = mm_I M 33 := fa.1 33 (by decide) (by decide)
  have e41 : mm_I M2 41 = mm_I M1 41 := from1 41 (by decide) (by decide) (by decide) (by decide) (by decide) (by decide)
  have now2 : nowX M2 = nowX M1 := by
    unfold nowX
    rw [from1 35 (by decide) (by decide) (by decide) (by decide) (by decide) (by decide), from1 36 (by decide) (by decide) (by decide) (by decide) (by decide) (by decide), from1 37 (by decide) (by decide) (by decide) (by decide) (by decide) (by decide)]
  have hRB2 : RB M2 nc nm := (RB_f nc4).mpr (by rw [e33, now2]; exact hRB)
  have W2a := hK.wr i3
  have WR2 : WR n xs M2 ((p + 1) % 40) (min 40 (z + 1)) h1 := by
    refine W2a.mv (M1 := M2) (fun a _ _ => sha a) (by omega) (fun a q _ _ => rfa a q) ?_ ?_ W2a.2.1 W2a.2.2.2.1 W2a.2.2.2.2.2.2.1 W2a.2.2.2.2.2.2.2.1
    · rw [from1 38 (by decide) (by decide) (by decide) (by decide) (by decide) (by decide), hX.I (by decide) (by decide) (by decide) (by decide) (by decide) (by decide)]; exact k2
    · rw [from1 38 (by decide) (by decide) (by decide) (by decide) (by decide) (by decide), hX.I (by decide) (by decide) (by decide) (by decide) (by decide) (by decide)]; exact k3
  have CP2 : CP n xs M2 ((p + 1) % 40) (min 40 (z + 1)) (cns (nowX M) bs) := by
    refine CP.mv W2a (hK.cp i3 i4) (fun q => rfa 39 q) (fun i o' hi' e => ?_)
    obtain ⟨o2, e2, B2⟩ := W2a.2.2.2.2.2.2.2.2.2.1 i hi'
    have : o2 = o' := Option.some.inj (e2.symm.trans e)
    subst this
    have := B2.1
    exact ⟨hi _ (by omega), hi _ (by omega), hi _ (by omega)⟩
  have e77 : mm_I M1 77 = mm_I M 77 := lowX 77 (by decide) (by decide) (by decide) (by decide) (by decide) (by decide) (by decide) (by decide)
  have MP2 : MP M2 (min 40 (z + 1)) (cns (mm_I M 77) rs) := by
    obtain ⟨x1, x2⟩ := hMP
    rw [e77] at x2
    refine ⟨?_, fun k hk x hx => ?_⟩
    · rw [hB.I (by decide) (by decide) (by decide) (by decide)]; exact x1
    · rw [hB.I (by decide) (by decide) (by decide) (by decide)]; exact x2 k hk x hx
  have dk := Dk_le (Dk := Dk) (z := z) (fun j hj => (i9 j hj).2)
  have dyj : ∀ j, j ≤ z → j ≤ 39 → ∀ i w, i < min 60 (Dk j) → w < 3 → mm_I M2 41 ((Dk j - 1 - i) % 100 * 3 + w) = mm_I M 41 ((Dk j - 1 - i) % 100 * 3 + w) := by
    intro j hj h39 i w hi' hw
    have := dk j hj
    rw [e41]
    exact hdy _ (day_ne this.1 (by omega) hi' hw)
  have i3z := i3.2.2.2.1
  have lw : lwN M2 = lwN M := by unfold lwN; rw [fa.2.1 1 (by decide)]
  have z1 : mm_z M1 = mm_z Ma := hX.2.2.1
  have zb : mm_z Mb = mm_z M1 := hS.2.2.1
  have z2 : mm_z M2 = mm_z Mb := hB.2.2.1
  have hnz : mm_n M2 ≤ 87 + lwN M2 + 3 * h1 ∧ mm_z M2 ≤ 100000 + 240 * lwN M2 + 19 * h1 := by
    obtain ⟨-, y1, y2⟩ := i19
    rw [lw, n2, nb, n1, z2, zb, z1]
    rcases k11 with ⟨-, q2, -, q4, q5⟩ | ⟨-, q2, -, q4, q5⟩
    · rw [q4, q5, q2]; exact ⟨y1, y2⟩
    · rw [q4, q5, q2]; omega
  refine ⟨fa, i1.fa hn (fun j b hj hb => (i18 j b hj hb).1) fa hRB2, ?_, WR2, CP2, MP2, ?_, ?_, ?_, ?_, ⟨?_, ?_, ?_⟩, ?_, ⟨?_, ?_⟩, ?_, ?_, ?_, i19.1, hnz⟩
  · unfold RS at i2 ⊢
    rw [low 47 (by decide) (by decide) (by decide) (by decide) (by decide) (by decide) (by decide) (by decide) (by decide) (by decide) (by decide) (by decide) (by decide) (by decide), low 48 (by decide) (by decide) (by decide) (by decide) (by decide) (by decide) (by decide) (by decide) (by decide) (by decide) (by decide) (by decide) (by decide) (by decide), low 49 (by decide) (by decide) (by decide) (by decide) (by decide) (by decide) (by decide) (by decide) (by decide) (by decide) (by decide) (by decide) (by decide) (by decide), low 50 (by decide) (by decide) (by decide) (by decide) (by decide) (by decide) (by decide) (by decide) (by decide) (by decide) (by decide) (by decide) (by decide) (by decide), low 51 (by decide) (by decide) (by decide) (by decide) (by decide) (by decide) (by decide) (by decide) (by decide) (by decide) (by decide) (by decide) (by decide) (by decide), low 81 (by decide) (by decide) (by decide) (by decide) (by decide) (by decide) (by decide) (by decide) (by decide) (by decide) (by decide) (by decide) (by decide) (by decide), low 82 (by decide) (by decide) (by decide) (by decide) (by decide) (by decide) (by decide) (by decide) (by decide) (by decide) (by decide) (by decide) (by decide) (by decide), low 83 (by decide) (by decide) (by decide) (by decide) (by decide) (by decide) (by decide) (by decide) (by decide) (by decide) (by decide) (by decide) (by decide) (by decide), low 84 (by decide) (by decide) (by decide) (by decide) (by decide) (by decide) (by decide) (by decide) (by decide) (by decide) (by decide) (by decide) (by decide) (by decide), m60 43 (by decide)]
    exact i2
  · rw [e41, cns_0]; exact hRL
  · rw [from1 35 (by decide) (by decide) (by decide) (by decide) (by decide) (by decide), cns_0]; exact h8
  · rw [cns_0, now2]; exact ⟨hD.2.2, hTS⟩
  · intro j hj
    cases j with
    | zero =>
      rw [cns_0, cns_0, cns_0, cns_s]
      refine ⟨?_, hD.1, hD.2.1⟩
      have base : RZ (mm_I M 33) nc nm (mm_I M 41) (nowX M) (mm_I M 77) (Dk 0) := ⟨(RB_f nc4).mp i1.2.1, i6, (bow_b (by decide)).trans i7, i8⟩
      exact base.cg nc4 e33 (fun _ _ => rfl) (fun _ _ => rfl) (fun i w hi' hw => dyj 0 (by omega) (by omega) i w hi' hw)
    | succ j =>
      rw [cns_s, cns_s, cns_s, cns_s]
      obtain ⟨y1, y2, y3⟩ := i9 j (by omega)
      exact ⟨y1.cg nc4 e33 (fun _ _ => rfl) (fun _ _ => rfl) (fun i w hi' hw => dyj (j + 1) (by omega) (by omega) i w hi' hw), y2, y3⟩
  · rw [low 16 (by decide) (by decide) (by decide) (by decide) (by decide) (by decide) (by decide) (by decide) (by decide) (by decide) (by decide) (by decide) (by decide) (by decide)]; exact i10
  · rw [m60 45 (by decide)]; exact i11
  · intro hm
    rw [e33, low 46 (by decide) (by decide) (by decide) (by decide) (by decide) (by decide) (by decide) (by decide) (by decide) (by decide) (by decide) (by decide) (by decide) (by decide), low 42 (by decide) (by decide) (by decide) (by decide) (by decide) (by decide) (by decide) (by decide) (by decide) (by decide) (by decide) (by decide) (by decide) (by decide), low 43 (by decide) (by decide) (by decide) (by decide) (by decide) (by decide) (by decide) (by decide) (by decide) (by decide) (by decide) (by decide) (by decide) (by decide), low 44 (by decide) (by decide) (by decide) (by decide) (by decide) (by decide) (by decide) (by decide) (by decide) (by decide) (by decide) (by decide) (by decide) (by decide), low 85 (by decide) (by decide) (by decide) (by decide) (by decide) (by decide) (by decide) (by decide) (by decide) (by decide) (by decide) (by decide) (by decide) (by decide)]
    exact i12 hm
  · intro i hi'
    rw [low 57 (by decide) (by decide) (by decide) (by decide) (by decide) (by decide) (by decide) (by decide) (by decide) (by decide) (by decide) (by decide) (by decide) (by decide), low 78 (by decide) (by decide) (by decide) (by decide) (by decide) (by decide) (by decide) (by decide) (by decide) (by decide) (by decide) (by decide) (by decide) (by decide)]
    exact i13 i hi'
  · rw [low 16 (by decide) (by decide) (by decide) (by decide) (by decide) (by decide) (by decide) (by decide) (by decide) (by decide) (by decide) (by decide) (by decide) (by decide), m60 30 (by decide)]; exact i14
  · rw [m60 30 (by decide)]; exact i15
  · rw [low 54 (by decide) (by decide) (by decide) (by decide) (by decide) (by decide) (by decide) (by decide) (by decide) (by decide) (by decide) (by decide) (by decide) (by decide)]; exact i16
  · rw [low 55 (by decide) (by decide) (by decide) (by decide) (by decide) (by decide) (by decide) (by decide) (by decide) (by decide) (by decide) (by decide) (by decide) (by decide)]; exact i17
  · intro j b hj hb
    rw [fa.p26 hn j] at hb
    obtain ⟨c1, c2, c3⟩ := i18 j b hj hb
    refine ⟨by omega, c2, fun i o' hi' e => ?_⟩
    by_cases q : i = p
    · subst q
      have : o' = o := by
        have e' : mm_p (mm_Y n xs) M2 39 i = mm_p (mm_Y n xs) Ma 39 i := by rw [p_39, p_39]; exact rfa 39 i
        exact Option.some.inj ((e.symm.trans e').trans k7)
      subst this
      rcases awo j b hj hb with w | w
      · left; omega
      · exact w
    · have e' : mm_p (mm_Y n xs) M2 39 i = mm_p (mm_Y n xs) M 39 i := by rw [p_39, p_39]; exact rf2 39 i (by omega) (Or.inr q)
      refine c3 i o' ?_ (e'.symm.trans e)
      rcases k11 with ⟨q1, q2, -⟩ | ⟨q1, q2, -⟩ <;> omega
end AC
