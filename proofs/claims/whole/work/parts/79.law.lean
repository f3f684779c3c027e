/-- the stroke's worth as the memory has it -/
def gvAt (M : mmM) (Ls : Nat → List (List Int32 × List Int32)) : Int32 → Int32 → Int32 → Int32 → Int32 := if mm_I M 25 2 = -1 then gvN (mm_I M 33 2) else gvL (Ls (mm_I M 25 2).toNatClampNeg) (mm_I M 33 0) (mm_I M 33 2)
/-- c laws, alike for both, one of them or none chosen -/
def LW (n : Nat) (xs : Nat → Int32) (M : mmM) (Ls : Nat → List (List Int32 × List Int32)) (c : Nat) : Prop := 87 ≤ mm_n M ∧ c ≤ 4 ∧ mm_I M 25 1 = nI c ∧ mm_I M 60 13 = nI c ∧ mm_I M 60 29 = mm_I M 25 2 ∧ (mm_I M 25 2 = -1 ∨ ∃ j, j < c ∧ mm_I M 25 2 = nI j) ∧ (∀ j, j < c → LWr n xs M j (Ls j) ∧ ∃ b, mm_p (mm_Y n xs) M 26 j = some b ∧ 87 ≤ b ∧ b < mm_n M) ∧ ∀ j, c ≤ j → j < 4 → mm_p (mm_Y n xs) M 26 j = some (27 + j)
def TI (n : Nat) (xs : Nat → Int32) (N : Nat) (M : mmM) : Prop := ∃ Ls c nc nm s, IE n xs N (gvAt M Ls) M nc nm ∧ RTP M s ∧ LW n xs M Ls c
section LL
variable {n : Nat} {xs : Nat → Int32} {N : Nat} {M M' : mmM} {Ls : Nat → List (List Int32 × List Int32)} {c : Nat}
theorem LWr.cg {j : Nat} {L : List (List Int32 × List Int32)} (h : LWr n xs M j L) (hp : mm_p (mm_Y n xs) M' 26 j = mm_p (mm_Y n xs) M 26 j) (hb : ∀ b, mm_p (mm_Y n xs) M 26 j = some b → mm_s (mm_Y n xs) M' b = mm_s (mm_Y n xs) M b ∧ mm_I M' b = mm_I M b) (fr : ∀ a, 62 ≤ a → a ≤ 68 → mm_I M' a = mm_I M a) : LWr n xs M' j L := by
  obtain ⟨l1, l2, l3, ⟨b, l4, l5, l6, l7⟩, l8, l9⟩ := h
  obtain ⟨a1, a2⟩ := hb b l4
  exact ⟨l1, l2, l3, ⟨b, hp.trans l4, l5, a1.trans l6, by rw [a2]; exact l7⟩, by rw [fr 65 (by omega) (by omega)]; exact l8, RML.cg fr l9⟩
theorem LW.fa (h : LW n xs M Ls c) (f : FA n xs M M') : LW n xs M' Ls c ∧ gvAt M' Ls = gvAt M Ls := by
  obtain ⟨h1, h2, h3, h4, h5, h6, h7, h8⟩ := h
  have e2 := f.2.1 2 (by decide)
  have e33 := f.1 33 (by decide) (by decide)
  have fr : ∀ a, 62 ≤ a → a ≤ 68 → mm_I M' a = mm_I M a := by
    have hd : ∀ a, a < 69 → 62 ≤ a → atc a = false := by decide
    exact fun a g1 g2 => f.1 a (by omega) (hd a (by omega) g1)
  have hp : ∀ j, mm_p (mm_Y n xs) M' 26 j = mm_p (mm_Y n xs) M 26 j := fun j => by unfold mm_p; rw [f.2.2.2.2.2.2.1 26 j (by omega) (by decide)]
  refine ⟨⟨by have := f.2.2.2.2.1; omega, h2, (f.2.1 1 (by decide)).trans h3, (f.2.2.1 13 (by decide) (by omega)).trans h4, ?_, ?_, ?_, fun j g1 g2 => (hp j).trans (h8 j g1 g2)⟩, ?_⟩
  · rw [f.2.2.1 29 (by decide) (by omega), e2]; exact h5
  · rw [e2]; exact h6
  · intro j hj
    obtain ⟨g1, b, g2, g3, g4⟩ := h7 j hj
    refine ⟨g1.cg (hp j) (fun b' hb' => ?_) fr, b, (hp j).trans g2, g3, by have := f.2.2.2.2.1; omega⟩
    obtain rfl : b = b' := Option.some.inj (g2.symm.trans hb')
    exact ⟨by unfold mm_s; rw [f.2.2.2.2.2.1 b g4], f.2.2.2.2.2.2.2 j b (by omega) g2⟩
  · unfold gvAt; rw [e2, e33]
theorem LW.G (hN : 10000 ≤ N) (h : LW n xs M Ls c) (h33 : bd 0 9 (mm_I M 33 0) ∧ bd 0 1 (mm_I M 33 2)) (h74 : ∀ k, k < 4 → mm_I M 74 k = mm_I M 33 k) : GX n xs N (gvAt M Ls) M ∧ GM n xs N (gvAt M Ls) M := by
  obtain ⟨h1, h2, h3, h4, h5, h6, h7, h8⟩ := h
  have b0 : bd 0 999 (mm_I M 33 0) := by have := h33.1; unfold bd at this ⊢; omega
  have b2 : bd 0 999 (mm_I M 33 2) := by have := h33.2; unfold bd at this ⊢; omega
  unfold gvAt
  rcases h6 with g | ⟨j, hj, g⟩
  · rw [if_pos g]
    exact ⟨GX_nA g, GM_nA (h5.trans g) (h74 2 (by omega))⟩
  · have hne : ¬ mm_I M 25 2 = -1 := fun w => nI_pos (n := j) (by omega) (by rw [← g, w]; decide)
    rw [if_neg hne]
    have hcl : (mm_I M 25 2).toNatClampNeg = j := by rw [g, nI_clamp (by omega)]
    rw [hcl]
    exact ⟨GX_lA hN (h7 j hj).1 (by omega) g b0 b2, GM_lA hN (h7 j hj).1 (by omega) (h5.trans g) (h74 0 (by omega)) (h74 2 (by omega)) b0 b2⟩
/-- a call that keeps tape and laws -/
theorem TI.aa (hT : TI n xs N M) {d iX iM : Nat} {aX aM : List Value} (h : ∀ gv nc nm, IE n xs N gv M nc nm → AA n xs N d gv nc nm M iX aX iM aM) : ∃ v M1 M2, mm_E n xs N d iX aX M = some (some (.int v), M1) ∧ mm_E n xs N d iM aM M1 = some (some (.int v), M2) ∧ TI n xs N M2 := by
  obtain ⟨Ls, c, nc, nm, s, h1, h2, h3⟩ := hT
  obtain ⟨v, M1, M2, e1, e2, f, e3⟩ := h _ _ _ h1
  obtain ⟨g1, g2⟩ := h3.fa f
  exact ⟨v, M1, M2, e1, e2, Ls, c, nc, nm, s, by rw [g2]; exact e3, h2.fa f, g1⟩
end LL
