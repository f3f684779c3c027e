/-! what holds of both between two calls: the bowl, what is kept, the diary, the image -/
def RBf (e : Nat → Int32) (nc nm : Nat) (b r : Nat → Int32) : Prop :=
  r 8 = b 0 ∧ r 9 = b 1 ∧ r 10 = b 2 ∧ r 11 = b 3 ∧ r 12 = b 4 ∧ r 13 = b 5 ∧ r 14 = b 6 ∧ r 15 = b 7 ∧ r 16 = b 8 ∧
  (∀ c, c < nc → r c = b (13 + c) ∧ r (4 + c) = b (9 + c)) ∧
  bd 0 99 (b 0) ∧ bd 0 160 (b 1) ∧ (0 ≤ (b 2).toInt ∧ (b 2).toInt < 2 ^ nm) ∧ bd 0 9 (b 3) ∧ bd 0 9 (b 4) ∧ bd 0 999 (b 5) ∧ bd 0 9999 (b 6) ∧ bd 0 999 (b 8) ∧
  (∀ c, c < nc → bd 1 9 (b (13 + c))) ∧ (∀ c, c < nc → 0 ≤ (b (9 + c)).toInt ∧ (b (9 + c)).toInt ≤ (e (4 + c * 2 + 1)).toInt)
def RLf (dy r : Nat → Int32) (D : Nat) : Prop := r 17 = nI (min 60 D) ∧ ∀ i w, i < min 60 D → w < 3 → r (18 + 3 * (min 60 D - 1 - i) + w) = dy ((D - 1 - i) % 100 * 3 + w)
/-- as many strokes as the cooks are tired by -/
def tsI (b : Nat → Int32) : Nat → Int
  | 0 => 0
  | c + 1 => tsI b c + (b (9 + c)).toInt
def TS (nc : Nat) (b : Nat → Int32) : Prop := (b 1).toInt = tsI b nc
theorem tsI_cg {b b' : Nat → Int32} : ∀ c, (∀ j, j < c → b' (9 + j) = b (9 + j)) → tsI b' c = tsI b c
  | 0, _ => rfl
  | c + 1, h => by
    unfold tsI
    rw [tsI_cg c (fun j hj => h j (by omega)), h c (by omega)]
theorem TS.cg {b b' : Nat → Int32} {nc : Nat} (h : TS nc b) (h4 : nc ≤ 4) (hb : ∀ j, j < 17 → b' j = b j) : TS nc b' := by
  unfold TS at h ⊢
  rw [hb 1 (by omega), tsI_cg nc (fun j hj => hb (9 + j) (by omega))]
  exact h
def RZ (e : Nat → Int32) (nc nm : Nat) (dy b r : Nat → Int32) (D : Nat) : Prop := RBf e nc nm b r ∧ RLf dy r D ∧ b 8 = nI D ∧ D ≤ 999 ∧ TS nc b
theorem RB_f {M : mmM} {nc nm : Nat} (h4 : nc ≤ 4) : RB M nc nm ↔ RBf (mm_I M 33) nc nm (nowX M) (mm_I M 77) := by
  have t : ∀ c, c < nc → nowX M (9 + c) = mm_I M 36 c := fun c hc => bow_t (by omega)
  have w : ∀ c, nowX M (13 + c) = mm_I M 37 c := fun c => bow_w
  have b : ∀ j, j ≤ 8 → nowX M j = mm_I M 35 j := fun j hj => bow_b hj
  unfold RB RBf
  rw [b 0 (by omega), b 1 (by omega), b 2 (by omega), b 3 (by omega), b 4 (by omega), b 5 (by omega), b 6 (by omega), b 7 (by omega), b 8 (by omega)]
  simp only [w]
  constructor
  · rintro ⟨a1, a2, a3, a4, a5, a6, a7, a8, a9, a10, a11, a12, a13, a14, a15, a16, a17, a18, a19, a20⟩
    exact ⟨a1, a2, a3, a4, a5, a6, a7, a8, a9, fun c hc => by rw [t c hc]; exact a10 c hc, a11, a12, a13, a14, a15, a16, a17, a18, a19, fun c hc => by rw [t c hc]; exact a20 c hc⟩
  · rintro ⟨a1, a2, a3, a4, a5, a6, a7, a8, a9, a10, a11, a12, a13, a14, a15, a16, a17, a18, a19, a20⟩
    exact ⟨a1, a2, a3, a4, a5, a6, a7, a8, a9, fun c hc => by have := a10 c hc; rw [t c hc] at this; exact this, a11, a12, a13, a14, a15, a16, a17, a18, a19, fun c hc => by have := a20 c hc; rw [t c hc] at this; exact this⟩
theorem RBf.cg {e e' b b' r r' : Nat → Int32} {nc nm : Nat} (h4 : nc ≤ 4) (h : RBf e nc nm b r) (he : e' = e) (hb : ∀ j, j < 17 → b' j = b j) (hr : ∀ x, x < 198 → r' x = r x) : RBf e' nc nm b' r' := by
  subst he
  unfold RBf at h ⊢
  rw [hb 0 (by omega), hb 1 (by omega), hb 2 (by omega), hb 3 (by omega), hb 4 (by omega), hb 5 (by omega), hb 6 (by omega), hb 7 (by omega), hb 8 (by omega), hr 8 (by omega), hr 9 (by omega), hr 10 (by omega), hr 11 (by omega), hr 12 (by omega), hr 13 (by omega), hr 14 (by omega), hr 15 (by omega), hr 16 (by omega)]
  obtain ⟨a1, a2, a3, a4, a5, a6, a7, a8, a9, a10, a11, a12, a13, a14, a15, a16, a17, a18, a19, a20⟩ := h
  exact ⟨a1, a2, a3, a4, a5, a6, a7, a8, a9, fun c hc => by rw [hr c (by omega), hr (4 + c) (by omega), hb (13 + c) (by omega), hb (9 + c) (by omega)]; exact a10 c hc, a11, a12, a13, a14, a15, a16, a17, a18, fun c hc => by rw [hb (13 + c) (by omega)]; exact a19 c hc, fun c hc => by rw [hb (9 + c) (by omega)]; exact a20 c hc⟩
theorem RLf.cg {dy dy' r r' : Nat → Int32} {D : Nat} (h : RLf dy r D) (hr : ∀ x, x < 198 → r' x = r x) (hd : ∀ i w, i < min 60 D → w < 3 → dy' ((D - 1 - i) % 100 * 3 + w) = dy ((D - 1 - i) % 100 * 3 + w)) : RLf dy' r' D := by
  refine ⟨by rw [hr 17 (by omega)]; exact h.1, fun i w hi hw => ?_⟩
  rw [hr _ (by omega), hd i w hi hw]
  exact h.2 i w hi hw
theorem RZ.cg {e e' dy dy' b b' r r' : Nat → Int32} {nc nm D : Nat} (h4 : nc ≤ 4) (h : RZ e nc nm dy b r D) (he : e' = e) (hb : ∀ j, j < 17 → b' j = b j) (hr : ∀ x, x < 198 → r' x = r x) (hd : ∀ i w, i < min 60 D → w < 3 → dy' ((D - 1 - i) % 100 * 3 + w) = dy ((D - 1 - i) % 100 * 3 + w)) : RZ e' nc nm dy' b' r' D := ⟨h.1.cg h4 he hb hr, h.2.1.cg hr hd, by rw [hb 8 (by omega)]; exact h.2.2.1, h.2.2.2.1, h.2.2.2.2.cg h4 hb⟩
/-- the cells that acts may write -/
def atc (a : Nat) : Bool := scr a || a == 16 || (Nat.ble 35 a && Nat.ble a 51) || a == 57 || (Nat.ble 77 a && Nat.ble a 85)
def FA (n : Nat) (xs : Nat → Int32) (M M' : mmM) : Prop := (∀ a, a < 87 → atc a = false → mm_I M' a = mm_I M a) ∧ (∀ k, k < 4 → mm_I M' 25 k = mm_I M 25 k) ∧ (∀ k, k ≠ 0 → (k < 30 ∨ k = 31 ∨ 33 ≤ k ∧ k < 35 ∨ 38 < k ∧ k < 43 ∨ k = 44 ∨ 45 < k) → mm_I M' 60 k = mm_I M 60 k) ∧ (∀ k, k ≠ 17 → k ≠ 18 → mm_I M' 16 k = mm_I M 16 k) ∧ mm_n M ≤ mm_n M' ∧ (∀ a, a < mm_n M → M'.1 a = M.1 a) ∧ (∀ a k, a < mm_n M → a ≠ 39 → M'.2.2.2.2.2 a k = M.2.2.2.2.2 a k) ∧ ∀ j b, j < 4 → mm_p (mm_Y n xs) M 26 j = some b → mm_I M' b = mm_I M b
/-- codes of laws are neither of the cells that acts write nor of the bowls -/
def CD (n : Nat) (xs : Nat → Int32) (M : mmM) (h : Nat) : Prop := ∀ j b, j < 4 → mm_p (mm_Y n xs) M 26 j = some b → b < mm_n M ∧ (b < 87 → atc b = false) ∧ ∀ i o, i < h → mm_p (mm_Y n xs) M 39 i = some o → b < o ∨ o + 3 ≤ b
section FAS
variable {n : Nat} {xs : Nat → Int32} {N : Nat} {gv : Int32 → Int32 → Int32 → Int32 → Int32} {M M' M1 : mmM} {nc nm : Nat}
theorem FA.tr {M'' : mmM} (hn : 87 ≤ mm_n M) (h : FA n xs M M') (g : FA n xs M' M'') : FA n xs M M'' := by
  obtain ⟨h1, h2, h3, h4, h5, h6, h7, h8⟩ := h
  obtain ⟨g1, g2, g3, g4, g5, g6, g7, g8⟩ := g
  refine ⟨fun a a1 a2 => (g1 a a1 a2).trans (h1 a a1 a2), fun k hk => (g2 k hk).trans (h2 k hk), fun k a1 a2 => (g3 k a1 a2).trans (h3 k a1 a2), fun k a1 a2 => (g4 k a1 a2).trans (h4 k a1 a2), Nat.le_trans h5 g5, fun a ha => (g6 a (by omega)).trans (h6 a ha), fun a k ha hb => (g7 a k (by omega) hb).trans (h7 a k ha hb), fun j b hj hb => ?_⟩
  have e : mm_p (mm_Y n xs) M' 26 j = mm_p (mm_Y n xs) M 26 j := by
    unfold mm_p
    rw [h7 26 j (by omega) (by decide)]
  exact (g8 j b hj (by rw [e]; exact hb)).trans (h8 j b hj hb)
theorem RT.fa (h : RT M nc nm) (f : FA n xs M M') : RT M' nc nm := h.mv (f.2.2.2.1 16 (by decide) (by decide)) (f.1 34 (by decide) (by decide)) (f.2.2.1 25 (by decide) (by omega)) (f.2.2.1 26 (by decide) (by omega)) (f.1 33 (by decide) (by decide)) (f.1 74 (by decide) (by decide)) (f.1 75 (by decide) (by decide)) (f.1 76 (by decide) (by decide))
theorem FA.p26 (hn : 87 ≤ mm_n M) (f : FA n xs M M') (j : Nat) : mm_p (mm_Y n xs) M' 26 j = mm_p (mm_Y n xs) M 26 j := by
  unfold mm_p
  rw [f.2.2.2.2.2.2.1 26 j (by omega) (by decide)]
theorem CT.fa (h : CT n xs N gv M nc nm) (hn : 87 ≤ mm_n M) (hc : ∀ j b, j < 4 → mm_p (mm_Y n xs) M 26 j = some b → b < mm_n M) (f : FA n xs M M') (hB : RB M' nc nm) : CT n xs N gv M' nc nm := by
  obtain ⟨h1, h2, h3, h4, h5, h6⟩ := h
  refine ⟨h1.fa f, hB, ?_, ?_, fun j b hj hb => h5 j b hj ((f.p26 hn j).symm.trans hb), h6⟩
  · intro M0 q
    refine h3 M0 ⟨q.1.trans (f.1 33 (by decide) (by decide)), fun k hk => (q.2.1 k hk).trans (f.2.1 k hk), fun j hj => (q.2.2.1 j hj).trans (f.p26 hn j), fun j b hj hb => ?_⟩
    obtain ⟨a1, a2⟩ := q.2.2.2 j b hj ((f.p26 hn j).trans hb)
    refine ⟨a1.trans ?_, a2.trans (f.2.2.2.2.2.2.2 j b hj hb)⟩
    unfold mm_s
    rw [f.2.2.2.2.2.1 b (hc j b hj hb)]
  · intro M0 q
    have hat : ∀ a, a < 69 → 62 ≤ a → atc a = false := by decide
    exact h4 M0 ⟨fun a g1 g2 => (q.1 a g1 g2).trans (f.1 a (by omega) (hat a (by omega) g1)), q.2.1.trans (f.1 74 (by decide) (by decide)), q.2.2.trans (f.2.2.1 29 (by decide) (by omega))⟩
theorem FR.fa (f : FR M M') (hn : 87 ≤ mm_n M) (hc : ∀ j b, j < 4 → mm_p (mm_Y n xs) M 26 j = some b → scr b = false) : FA n xs M M' := by
  obtain ⟨f1, f2, f3, f4, f5, f6, f7, f8, f9⟩ := f
  refine ⟨fun a _ ha => f5 a ?_, f6, fun k k0 hk => f7 k k0 (by omega), fun k _ _ => by rw [f5 16 (by decide)], by rw [show mm_n M' = mm_n M from f2]; exact Nat.le_refl _, fun a _ => congrFun f1 a, fun a k _ _ => congrFun (congrFun f4 a) k, fun j b hj hb => f5 b (hc j b hj hb)⟩
  unfold atc at ha
  cases hs : scr a with
  | false => rfl
  | true => rw [hs] at ha; cases ha
end FAS
