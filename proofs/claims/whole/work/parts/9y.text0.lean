section TX0
variable {n : Nat} {xs : Nat → Int32} {N : Nat} {M M5 : mmM}
theorem tsI_0 {b : Nat → Int32} : ∀ c, (∀ j, j < c → b (9 + j) = 0) → tsI b c = 0
  | 0, _ => rfl
  | c + 1, h => by
    unfold tsI
    rw [tsI_0 c (fun j hj => h j (by omega)), h c (by omega)]
    decide
theorem bd_c {x : Int32} {lo hi : Int} {a b : Int32} (h : bd a.toInt b.toInt x) (h1 : lo ≤ a.toInt) (h2 : b.toInt ≤ hi) : bd lo hi x := ⟨by have := h.1; omega, by have := h.2; omega⟩
/-- a new duchy stands -/
theorem TI.nd (hT : TI n xs N M) {m : Nat → Nat} {v : Nat → Int32} (hv : VB m v) (hm1 : 0 < m 1) (hm2 : 0 < m 2)
    (s1 : M5.1 = M.1) (s2 : M5.2.1 = M.2.1) (s3 : M5.2.2.1 = M.2.2.1) (s5 : M5.2.2.2.2.2 = M.2.2.2.2.2)
    (fo : ∀ b, b ≠ 16 → b ≠ 17 → b ≠ 21 → b ≠ 22 → b ≠ 33 → b ≠ 34 → b ≠ 35 → b ≠ 36 → b ≠ 37 → b ≠ 38 → b ≠ 47 → b ≠ 60 → (b < 71 ∨ 77 < b) → mm_I M5 b = mm_I M b)
    (f33 : ∀ j, j < 40 → mm_I M5 33 j = v j) (f34 : mm_I M5 34 1 = nI (m 1) ∧ mm_I M5 34 2 = nI (m 2))
    (f35 : ∀ j, j ≤ 8 → mm_I M5 35 j = if j = 4 then v 1 else if j = 5 then v 3 else 0) (f36 : ∀ c, c < 4 → mm_I M5 36 c = 0) (f37 : ∀ c, c < 4 → mm_I M5 37 c = v (4 + c * 2))
    (f38 : ∀ q, mm_I M5 38 q = if q = 1 then 0 else mm_I M 38 q) (f47 : mm_I M5 47 4 = 0) (f16 : ∀ q, mm_I M5 16 q = if q = 17 then 0 else if q = 16 then 1 else mm_I M 16 q)
    (f60 : ∀ q, q = 13 ∨ q = 29 ∨ q = 30 → mm_I M5 60 q = mm_I M 60 q) (g60 : mm_I M5 60 25 = nI (m 1) ∧ mm_I M5 60 26 = nI (m 2) ∧ mm_I M5 60 43 = 0 ∧ mm_I M5 60 32 = 0 ∧ mm_I M5 60 45 = 0)
    (f74 : ∀ k, k < 4 → mm_I M5 74 k = v k) (f75 : ∀ k, k < m 1 * 2 → mm_I M5 75 k = v (4 + k)) (f76 : ∀ k, k < m 2 * 4 → mm_I M5 76 k = v (12 + k))
    (f77 : ∀ k, k < 198 → mm_I M5 77 k = if k = 13 then v 3 else if k = 12 then v 1 else if k < m 1 then v (4 + 2 * k) else 0) (hR : RTP M5 0) : TI n xs N M5 := by
  obtain ⟨Ls, c, nc, nm, s, h1, h2, l1, l2, l3, l4, l5, l6, l7, l8⟩ := hT
  obtain ⟨hN, -, -⟩ := h1.b
  have b1 : m 1 ≤ 4 := (hv.2 1 (by omega)).1
  have b2 : m 2 ≤ 7 := (hv.2 2 (by omega)).1
  have v0 : bd 0 9 (v 0) := VK_bd (hv.1 0 (by omega)) (lo := 0) (hi := 9) rfl rfl
  have v1 : bd 0 9 (v 1) := VK_bd (hv.1 1 (by omega)) (lo := 0) (hi := 9) rfl rfl
  have v2 : bd 0 1 (v 2) := VK_bd (hv.1 2 (by omega)) (lo := 0) (hi := 1) rfl rfl
  have v3 : bd 0 99 (v 3) := VK_bd (hv.1 3 (by omega)) (lo := 0) (hi := 99) rfl rfl
  have vc0 : ∀ c, c < m 1 → bd 1 9 (v (4 + c * 2)) := fun c hc => VK_bd ((hv.2 1 (by omega)).2 c 0 hc (by decide)) (lo := 1) (hi := 9) rfl rfl
  have vc1 : ∀ c, c < m 1 → bd 1 40 (v (4 + c * 2 + 1)) := fun c hc => VK_bd ((hv.2 1 (by omega)).2 c 1 hc (by decide)) (lo := 1) (hi := 40) rfl rfl
  have vm0 : ∀ c, c < m 2 → bd 0 9 (v (12 + c * 4)) := fun c hc => VK_bd ((hv.2 2 (by omega)).2 c 0 hc (by decide)) (lo := 0) (hi := 9) rfl rfl
  have vm1 : ∀ c, c < m 2 → bd 0 9 (v (12 + c * 4 + 1)) := fun c hc => VK_bd ((hv.2 2 (by omega)).2 c 1 hc (by decide)) (lo := 0) (hi := 9) rfl rfl
  have vm2 : ∀ c, c < m 2 → bd 0 40 (v (12 + c * 4 + 2)) := fun c hc => VK_bd ((hv.2 2 (by omega)).2 c 2 hc (by decide)) (lo := 0) (hi := 40) rfl rfl
  have vm3 : ∀ c, c < m 2 → bd 0 9 (v (12 + c * 4 + 3)) := fun c hc => VK_bd ((hv.2 2 (by omega)).2 c 3 hc (by decide)) (lo := 0) (hi := 9) rfl rfl
  have hp : ∀ a q, mm_p (mm_Y n xs) M5 a q = mm_p (mm_Y n xs) M a q := fun a q => by unfold mm_p; rw [s5]
  have hs : ∀ a, mm_s (mm_Y n xs) M5 a = mm_s (mm_Y n xs) M a := fun a => by unfold mm_s; rw [s1]
  have nn : mm_n M5 = mm_n M := s2
  have e25 : mm_I M5 25 = mm_I M 25 := fo 25 (by decide) (by decide) (by decide) (by decide) (by decide) (by decide) (by decide) (by decide) (by decide) (by decide) (by decide) (by decide) (by omega)
  have fh : ∀ b, 48 ≤ b → b ≠ 60 → (b < 71 ∨ 77 < b) → mm_I M5 b = mm_I M b := fun b w1 w2 w3 => fo b (by omega) (by omega) (by omega) (by omega) (by omega) (by omega) (by omega) (by omega) (by omega) (by omega) (by omega) w2 w3
  have hL : LW n xs M5 Ls c := by
    refine ⟨by rw [nn]; exact l1, l2, by rw [e25]; exact l3, (f60 13 (by omega)).trans l4, by rw [f60 29 (by omega), e25]; exact l5, by rw [e25]; exact l6, ?_, fun j g1 g2 => (hp 26 j).trans (l8 j g1 g2)⟩
    intro j hj
    obtain ⟨g1, b, g2, g3, g4⟩ := l7 j hj
    refine ⟨g1.cg (hp 26 j) (fun b' hb' => ?_) (fun a a1 a2 => fh a (by omega) (by omega) (by omega)), b, (hp 26 j).trans g2, g3, by rw [nn]; exact g4⟩
    obtain rfl : b = b' := Option.some.inj (g2.symm.trans hb')
    exact ⟨hs b, fh b (by omega) (by omega) (by omega)⟩
  have h33 : bd 0 9 (mm_I M5 33 0) ∧ bd 0 1 (mm_I M5 33 2) := ⟨by rw [f33 0 (by omega)]; exact v0, by rw [f33 2 (by omega)]; exact v2⟩
  have h74 : ∀ k, k < 4 → mm_I M5 74 k = mm_I M5 33 k := fun k hk => by rw [f74 k hk, f33 k (by omega)]
  obtain ⟨gx, gm⟩ := hL.G hN h33 h74
  refine ⟨Ls, c, m 1, m 2, 0, ?_, hR, hL⟩
  obtain ⟨k, p, z, h, bs, rs, Dk, im, hI⟩ := h1
  obtain ⟨⟨t1, t2, t3, t4, t5, t6⟩, i2, i3, i4, i5, i6, i7, i8, i9, ⟨i10, i11, i12⟩, i13, ⟨i14, i15⟩, i16, i17, i18, i19⟩ := hI
  have z0 : (0 : Int32).toInt = 0 := by decide
  have lw : lwN M5 = lwN M := by unfold lwN; rw [e25]
  have hpow : (1 : Int) ≤ 2 ^ m 2 := by
    have : (1 : Nat) ≤ 2 ^ m 2 := Nat.one_le_two_pow
    exact_mod_cast this
  refine ⟨0, p, 0, h, bs, rs, fun _ => 0, false, ⟨?_, ?_, gx, gm, fun j b hj hb => t5 j b hj ((hp _ _).symm.trans hb), t6⟩, ?_, ?_, ?_, ?_, ?_, ?_, ⟨by decide, ?_⟩, ?_, ⟨?_, ?_, ?_⟩, ?_, ⟨?_, ?_⟩, ?_, ?_, ?_, i19.1, ?_, ?_⟩
  · refine ⟨b1, b2, by omega, ?_, f34.1, f34.2, g60.1, g60.2.1, h74, fun c w hc hw => ?_, fun c w hc hw => ?_, h33.1, h33.2, fun c hc => ?_, fun c hc => ⟨?_, ?_, ?_, ?_⟩⟩
    · rw [f16, if_neg (by decide), if_pos rfl, decide_eq_true (show m 2 ≠ 0 by omega)]; rfl
    · rw [f75 _ (by omega), f33 _ (by omega)]; congr 1; omega
    · rw [f76 _ (by omega), f33 _ (by omega)]; congr 1; omega
    · rw [f33 _ (by omega)]; exact vc1 c hc
    · rw [f33 _ (by omega)]; exact vm0 c hc
    · rw [f33 _ (by omega)]; exact vm1 c hc
    · rw [f33 _ (by omega)]; exact vm2 c hc
    · rw [f33 _ (by omega)]; exact vm3 c hc
  · have y : ∀ j, j ≤ 8 → j ≠ 4 → j ≠ 5 → mm_I M5 35 j = 0 := fun j a1 a2 a3 => by rw [f35 j a1, if_neg a2, if_neg a3]
    have x : ∀ j, 8 ≤ j → j < 198 → j ≠ 12 → j ≠ 13 → mm_I M5 77 j = 0 := fun j a0 a1 a2 a3 => by rw [f77 j a1, if_neg a3, if_neg a2, if_neg (by omega)]
    refine ⟨by rw [x 8 (by omega) (by omega) (by omega) (by omega), y 0 (by omega) (by omega) (by omega)], by rw [x 9 (by omega) (by omega) (by omega) (by omega), y 1 (by omega) (by omega) (by omega)], by rw [x 10 (by omega) (by omega) (by omega) (by omega), y 2 (by omega) (by omega) (by omega)], by rw [x 11 (by omega) (by omega) (by omega) (by omega), y 3 (by omega) (by omega) (by omega)], ?_, ?_, by rw [x 14 (by omega) (by omega) (by omega) (by omega), y 6 (by omega) (by omega) (by omega)], by rw [x 15 (by omega) (by omega) (by omega) (by omega), y 7 (by omega) (by omega) (by omega)], by rw [x 16 (by omega) (by omega) (by omega) (by omega), y 8 (by omega) (by omega) (by omega)], fun c hc => ⟨?_, ?_⟩, ?_, ?_, ?_, ?_, ?_, ?_, ?_, ?_, fun c hc => ?_, fun c hc => ?_⟩
    · rw [f77 12 (by omega), if_neg (by decide), if_pos rfl, f35 4 (by omega), if_pos rfl]
    · rw [f77 13 (by omega), if_pos rfl, f35 5 (by omega), if_neg (by decide), if_pos rfl]
    · rw [f77 c (by omega), if_neg (by omega), if_neg (by omega), if_pos hc, f37 c (by omega)]; congr 1; omega
    · rw [f77 (4 + c) (by omega), if_neg (by omega), if_neg (by omega), f36 c (by omega)]
      by_cases q : 4 + c < m 1
      · omega
      · rw [if_neg q]
    · rw [y 0 (by omega) (by omega) (by omega)]; exact ⟨by rw [z0]; omega, by rw [z0]; omega⟩
    · rw [y 1 (by omega) (by omega) (by omega)]; exact ⟨by rw [z0]; omega, by rw [z0]; omega⟩
    · rw [y 2 (by omega) (by omega) (by omega), z0]; exact ⟨by omega, by omega⟩
    · rw [y 3 (by omega) (by omega) (by omega)]; exact ⟨by rw [z0]; omega, by rw [z0]; omega⟩
    · rw [f35 4 (by omega), if_pos rfl]; exact v1
    · rw [f35 5 (by omega), if_neg (by decide), if_pos rfl]; exact ⟨v3.1, by have := v3.2; omega⟩
    · rw [y 6 (by omega) (by omega) (by omega)]; exact ⟨by rw [z0]; omega, by rw [z0]; omega⟩
    · rw [y 8 (by omega) (by omega) (by omega)]; exact ⟨by rw [z0]; omega, by rw [z0]; omega⟩
    · rw [f37 c (by omega)]; exact vc0 c hc
    · rw [f36 c (by omega), z0, f33 _ (by omega)]; have := (vc1 c hc).1; exact ⟨by omega, by omega⟩
  · exact ⟨by omega, by rw [f47]; exact nI_0.symm, by rw [g60.2.2.1]; exact nI_0.symm, fun i hi => by omega⟩
  · refine i3.mv (fun a _ _ => congrFun s1 a) (by rw [nn]; exact Nat.le_refl _) (fun a q _ _ => congrFun (congrFun s5 a) q) ?_ ?_ i3.2.1 (by omega) i3.2.2.2.2.2.2.1 (Or.inl (Nat.zero_le _))
    · rw [f38, if_neg (by decide)]; exact i3.1
    · rw [f38, if_pos rfl]; exact nI_0.symm
  · exact fun k hk => by omega
  · exact ⟨by rw [g60.2.2.2.1]; exact nI_0.symm, fun k hk => by omega⟩
  · refine ⟨?_, fun i w hi => by have hi' : i < min 60 0 := hi; omega⟩
    rw [f77 17 (by omega), if_neg (by decide), if_neg (by decide), if_neg (by omega)]; exact nI_0.symm
  · rw [f35 8 (by omega), if_neg (by decide), if_neg (by decide)]; exact nI_0.symm
  · unfold TS
    have : nowX M5 1 = 0 := by show bow _ _ _ 1 = 0; rw [bow_b (by omega), f35 1 (by omega)]; rfl
    rw [this, z0, tsI_0 _ (fun j hj => by show bow _ _ _ (9 + j) = 0; rw [bow_t (by omega), f36 j (by omega)])]
  · exact fun j hj => by omega
  · rw [f16, if_pos rfl]; rfl
  · rw [g60.2.2.2.2]; rfl
  · exact fun w => by cases w
  · rw [fh 57 (by omega) (by omega) (by omega), fh 78 (by omega) (by omega) (by omega)]; exact i13
  · rw [f16, if_neg (by decide), if_neg (by decide), f60 30 (by omega)]; exact i14
  · rw [f60 30 (by omega)]; exact i15
  · rw [fh 54 (by omega) (by omega) (by omega)]; exact i16
  · rw [fh 55 (by omega) (by omega) (by omega)]; exact i17
  · intro j b hj hb
    rw [hp] at hb
    obtain ⟨c1, c2, c3⟩ := i18 j b hj hb
    refine ⟨by rw [nn]; exact c1, c2, fun i o hi e => c3 i o hi ?_⟩
    rw [hp] at e
    exact e
  · rw [lw, nn]; exact i19.2.1
  · rw [lw, show mm_z M5 = mm_z M from s3]; exact i19.2.2
end TX0
