/-! the law's loop -/
abbrev Lr (i : Int32) : mmL := [some (.ref 9), some (.ref 16), some (.ref 60), some (.ref 86), some (.int i), none, none]
theorem sw_fw (x : Int32) (d : Nat) : ∀ w : List (Int32 × Nat), ∃ t, (t = d ∨ t ∈ w.map Prod.snd) ∧ ∀ g : Nat → Option mmR, mm_sw x d g w = g t
  | [] => ⟨d, Or.inl rfl, fun g => rfl⟩
  | q :: w => by
    by_cases e : x = q.1
    · exact ⟨q.2, Or.inr List.mem_cons_self, fun g => by show (if x = q.1 then g q.2 else mm_sw x d g w) = g q.2; rw [if_pos e]⟩
    · obtain ⟨t, h1, h2⟩ := sw_fw x d w
      refine ⟨t, ?_, fun g => ?_⟩
      · rcases h1 with h | h
        · exact Or.inl h
        · exact Or.inr (List.mem_cons_of_mem _ h)
      · show (if x = q.1 then g q.2 else mm_sw x d g w) = g t
        rw [if_neg e]; exact h2 g
def law_ts : List Nat := [0, 23, 1593, 451, 224, 297, 322, 347, 372, 397, 434, 502, 527, 564, 589, 602, 615, 640, 665, 678, 703, 728, 753, 822, 847, 860, 897, 934, 971, 1008, 1033, 1082, 1107, 1120, 1145, 1222, 1247, 1284, 1357, 1406, 1455, 1492, 1517, 1542, 1555, 1568]
theorem law_tsm : lw_sw.map Prod.snd = [224, 297, 322, 347, 372, 397, 434, 502, 527, 564, 589, 602, 615, 640, 665, 678, 703, 728, 753, 822, 847, 860, 897, 934, 971, 1008, 1033, 1082, 1107, 1120, 1145, 1222, 1247, 1284, 1357, 1406, 1455, 1492, 1517, 1542, 1555, 1568] := by decide +kernel
theorem law_at : ∀ t ∈ law_ts, (mm_at t cd_law).isEmpty = false := by decide +kernel
theorem law_hat {t : Nat} (h : t ∈ law_ts) : ∃ e9 es, mm_at t cd_law = e9 :: es := by
  cases hc : mm_at t cd_law with
  | nil => have := law_at t h; rw [hc] at this; cases this
  | cons a b => exact ⟨a, b, rfl⟩
theorem law_sub {t : Nat} (h : t ∈ lw_sw.map Prod.snd) : t ∈ law_ts := by
  rw [law_tsm] at h
  exact List.mem_cons_of_mem _ (List.mem_cons_of_mem _ (List.mem_cons_of_mem _ (List.mem_cons_of_mem _ h)))
theorem head_lt {n i : Nat} (hn : n ≤ 3072) (hi : i ≤ n) : (Int32.ofNat n - 6 < nI i) ↔ n < i + 6 := by
  by_cases h : 6 ≤ n
  · obtain ⟨k, rfl⟩ : ∃ k, n = k + 6 := ⟨n - 6, by omega⟩
    have e : Int32.ofNat (k + 6) - 6 = nI k := by
      show nI (k + 6) - 6 = nI k
      rw [← nI_add, show nI 6 = (6 : Int32) from rfl, Int32.add_sub_cancel]
    rw [e, nI_ltI (by omega) (by omega)]
    omega
  · have hd : ∀ n, n < 6 → ∀ i, i < 6 → ((Int32.ofNat n - 6 < nI i) ↔ n < i + 6) := by decide +kernel
    exact hd n (by omega) i (by omega)
theorem TI.rm {n : Nat} {xs : Nat → Int32} {N : Nat} {M : mmM} (h : TI n xs N M) : mm_n M ≤ 211 ∧ mm_z M ≤ 101720 ∧ 10000 ≤ N := by
  obtain ⟨Ls, c, nc, nm, s, ⟨k, p, z, h, bs, rs, Dk, im, i1, i2, i3, i4, i5, i6, i7, i8, i9, i10, i13, i14, i16, i17, i18, i19, i20, i21⟩, h2, l1, l2, l3, l4⟩ := h
  have hl : lwN M = c := by
    unfold lwN
    rw [l3, nI_toInt (by omega)]
    omega
  have h40 : h ≤ 40 := i3.2.2.2.2.2.1
  rw [hl] at i20 i21
  exact ⟨by omega, by omega, i19⟩
theorem cas_all {n : Nat} {xs : Nat → Int32} {N : Nat} {M : mmM} {i : Int32} (hT : TI n xs N M) (hi : IN5 n i) {t : Nat} (ht : t ∈ lw_sw.map Prod.snd) (h6 : t ≠ 434) : CAS n xs N 0 t M i := by
  rw [law_tsm] at ht
  simp only [List.mem_cons, List.not_mem_nil, or_false] at ht
  rcases ht with rfl | rfl | rfl | rfl | rfl | rfl | rfl | rfl | rfl | rfl | rfl | rfl | rfl | rfl | rfl | rfl | rfl | rfl | rfl | rfl | rfl | rfl | rfl | rfl | rfl | rfl | rfl | rfl | rfl | rfl | rfl | rfl | rfl | rfl | rfl | rfl | rfl | rfl | rfl | rfl | rfl | rfl
  · exact lw_0 hT 0 hi
  · exact lw_1 hT 0 hi
  · exact lw_2 hT 0 hi
  · exact lw_3 hT 0 hi
  · exact lw_4 hT 0 hi
  · exact lw_5 hT 0 hi
  · exact absurd rfl h6
  · exact lw_7 hT 0 hi
  · exact lw_8 hT 0 hi
  · exact lw_9 hT 0 hi
  · exact lw_10 hT 0 hi
  · exact lw_11 hT 0 hi
  · exact lw_12 hT 0 hi
  · exact lw_13 hT 0 hi
  · exact lw_14 hT 0 hi
  · exact lw_15 hT 0 hi
  · exact lw_16 hT 0 hi
  · exact lw_17 hT 0 hi
  · exact lw_18 hT 0 hi
  · exact lw_19 hT 0 hi
  · exact lw_20 hT 0 hi
  · exact lw_21 hT 0 hi
  · exact lw_22 hT 0 hi
  · exact lw_23 hT 0 hi
  · exact lw_24 hT 0 hi
  · exact lw_25 hT 0 hi
  · exact lw_26 hT 0 hi
  · exact lw_27 hT 0 hi
  · exact lw_28 hT 0 hi
  · exact lw_29 hT 0 hi
  · exact lw_30 hT 0 hi
  · exact lw_31 hT 0 hi
  · exact lw_32 hT 0 hi
  · exact lw_33 hT 0 hi
  · exact lw_34 hT 0 hi
  · exact lw_35 hT 0 hi
  · exact lw_36 hT 0 hi
  · exact lw_37 hT 0 hi
  · exact lw_38 hT 0 hi
  · exact lw_39 hT 0 hi
  · exact lw_40 hT 0 hi
  · exact lw_41 hT 0 hi
theorem law_wfY (n : Nat) (xs : Nat → Int32) : mm_wfY (mm_Y n xs) := by
  refine ⟨by show 16 ≤ 87; omega, fun t ci ht h => ?_⟩
  have hd : ∀ t, t < 16 → t ≠ 9 → ((mm_T0 0).getD t (.inl 99) = .inl 99 ∨ ∃ q, (mm_T0 0).getD t (.inl 99) = .inr q) := fun t _ _ => by
    cases hq : (mm_T0 0).getD t (.inl 99) with
    | inr q => exact Or.inr ⟨q, rfl⟩
    | inl q =>
      left
      have : ∀ t, t < 16 → ∀ q, q < 13 → (mm_T0 0).getD t (.inl 99) ≠ .inl q := by decide +kernel
      have h2 : ∀ t, t < 16 → (match (mm_T0 0).getD t (.inl 99) with | .inl q => Nat.beq q 99 | .inr _ => true) = true := by decide +kernel
      have h3 := h2 t (by assumption)
      rw [hq] at h3
      rw [Nat.eq_of_beq_eq_true h3]
  have h : (mm_T0 n).getD t (.inl 99) = .inl ci := h
  rcases (show t = 0 ∨ t = 1 ∨ t = 2 ∨ t = 3 ∨ t = 4 ∨ t = 5 ∨ t = 6 ∨ t = 7 ∨ t = 8 ∨ t = 9 ∨ t = 10 ∨ t = 11 ∨ t = 12 ∨ t = 13 ∨ t = 14 ∨ t = 15 by omega) with rfl | rfl | rfl | rfl | rfl | rfl | rfl | rfl | rfl | rfl | rfl | rfl | rfl | rfl | rfl | rfl
  all_goals first | cases h; rfl | cases h
theorem law_Yt (n : Nat) (xs : Nat → Int32) : ∀ t, t < 16 → (mm_Y n xs).2.1 t = (mm_Y0 n xs).2.1 t ∧ (mm_Y n xs).2.2.2 t = (mm_Y0 n xs).2.2.2 t := fun _ _ => ⟨rfl, rfl⟩
theorem IN5_nI {n i : Nat} (hn : n ≤ 3072) (h : i + 6 ≤ n) : IN5 n (nI i) := by
  have w : ∀ k, k < 6 → mm_inb (nI i + nI k) n = true := fun k hk => by rw [nI_add]; exact mm_inb_nI (by omega) (by omega)
  exact ⟨w 1 (by omega), w 2 (by omega), w 3 (by omega), w 4 (by omega), w 5 (by omega)⟩
section LP
variable {p : Program} {l : Launch} {e : Env} {s : State} {m : MethodId} {b n : Nat} {xs : Nat → Int32} {below : List Frame} {meth : Method} {c : Code} {D : va_G} {cA : Nat → ClassId} {ρ0 : Nat → Nat} {N : Nat}
/-- the minister's case comes to its end -/
def MIN (p : Program) (l : Launch) (e : Env) (s : State) (m : MethodId) (b : Nat) (below : List Frame) (meth : Method) (c : Code) (D : va_G) (cA : Nat → ClassId) (ρ0 : Nat → Nat) (n : Nat) (xs : Nat → Int32) (N : Nat) : Prop :=
  ∀ (oc z0 : Nat) (M : mmM) (i : Int32), TI n xs N M → IN5 n i → oc ≤ 3072 → z0 + 6 * oc = 30000 → (∀ (M2 : mmM) (oc2 z2 : Nat), TI n xs N M2 → oc2 ≤ oc + 1 → z2 + 6 * oc2 = 30000 → GdL p l e s m b below meth c D cA ρ0 (mm_Y n xs) oc2 z2 1593 (Lr i) [] M2) → GdL p l e s m b below meth c D cA ρ0 (mm_Y n xs) oc z0 434 (Lr i) [] M
theorem law_loop (hC : LC p s m meth c b n xs D cA ρ0) (hn : n ≤ 3072) (hMin : MIN p l e s m b below meth c D cA ρ0 n xs N) : ∀ (r i oc z0 : Nat) (M : mmM), n < r + i → i ≤ n → oc ≤ i → z0 + 6 * oc = 30000 → TI n xs N M → GdL p l e s m b below meth c D cA ρ0 (mm_Y n xs) oc z0 23 (Lr (nI i)) [] M
  | 0, i, oc, z0, M, h1, h2, h3, h4, hT => by omega
  | r + 1, i, oc, z0, M, h1, h2, h3, h4, hT => by
    obtain ⟨b1, b2, b3⟩ := hT.rm
    have b1 : M.2.1 ≤ 211 := b1
    have b2 : M.2.2.1 ≤ 101720 := b2
    by_cases h : n < i + 6
    · refine law_seg hC (law_wfY n xs) (law_Yt n xs) (N := N) (d := 60) (t' := 1599) (L' := Lr (nI i)) (K' := []) (M' := M) (by omega) (law_hat (by decide)) ?_ (by omega) (by omega) (law_end hC (by omega) (by omega))
      refine (uw_head n xs N 60 _ M (nI i)).trans ?_
      rw [if_pos ((head_lt hn h2).mpr h)]
      exact jT_at _ _ _ _
    · have hgo : ∀ (M2 : mmM) (oc2 z2 : Nat), TI n xs N M2 → oc2 ≤ oc + 1 → z2 + 6 * oc2 = 30000 → GdL p l e s m b below meth c D cA ρ0 (mm_Y n xs) oc2 z2 1593 (Lr (nI i)) [] M2 := by
        intro M2 oc2 z2 hT2 g1 g2
        obtain ⟨c1, c2, c3⟩ := hT2.rm
        have c1 : M2.2.1 ≤ 211 := c1
        have c2 : M2.2.2.1 ≤ 101720 := c2
        refine law_seg hC (law_wfY n xs) (law_Yt n xs) (N := N) (d := 60) (t' := 23) (L' := Lr (nI (i + 6))) (K' := []) (M' := M2) (by omega) (law_hat (by decide)) ?_ (by omega) (by omega) (law_loop hC hn hMin r (i + 6) oc2 z2 M2 (by omega) (by omega) (by omega) g2 hT2)
        refine (uw_inc n xs N 60 _ M2 (nI i)).trans ?_
        rw [show nI i + (6 : Int32) = nI (i + 6) from nI_add i 6]
        exact jT_at _ _ _ _
      obtain ⟨t, ht, hsw⟩ := sw_fw (xs (nI i).toNatClampNeg &&& (63 : Int32)) 1593 lw_sw
      refine law_seg hC (law_wfY n xs) (law_Yt n xs) (N := N) (d := 60) (t' := t) (L' := Lr (nI i)) (K' := []) (M' := M) (by omega) (law_hat (by decide)) ?_ (by omega) (by omega) ?_
      · refine (uw_head n xs N 60 _ M (nI i)).trans ?_
        rw [if_neg (fun w => h ((head_lt hn h2).mp w)), mm_inb_nI (by omega) (by omega), cond_true, hsw]
        exact jT_at _ _ _ _
      · rcases ht with rfl | ht
        · exact hgo M oc z0 hT (by omega) h4
        · by_cases h6 : t = 434
          · subst h6
            exact hMin oc z0 M (nI i) hT (IN5_nI hn (by omega)) (by omega) h4 hgo
          · obtain ⟨M2, he, hT2⟩ := cas_all (i := nI i) hT (IN5_nI (i := i) hn (by omega)) ht h6
            obtain ⟨c1, c2, c3⟩ := hT2.rm
            have c1 : M2.2.1 ≤ 211 := c1
            have c2 : M2.2.2.1 ≤ 101720 := c2
            refine law_seg hC (law_wfY n xs) (law_Yt n xs) (N := N) (d := 60) (t' := 1593) (L' := Lr (nI i)) (K' := []) (M' := M2) (by omega) (law_hat (law_sub ht)) ?_ (by omega) (by omega) (hgo M2 oc z0 hT2 (by omega) h4)
            exact (he _).trans (jT_at _ _ _ _)
end LP
