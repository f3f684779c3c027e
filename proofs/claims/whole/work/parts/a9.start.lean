/-! from the entry to the loop -/
theorem ini_cell {cA : Nat → ClassId} {ρ : Nat → Nat} {n : Nat} {xs : Nat → Int32} {a : Nat} (h1 : 16 ≤ a) (h2 : a < 87) : mm_cell cA ρ (mm_Y n xs) mm_M1 a = mm_cell cA ρ (mm_Y0 n xs) mm_M1 a := by
  have b0 : Nat.blt a (mm_Y0 n xs).1 = false := by
    cases hh : Nat.blt a (mm_Y0 n xs).1 with
    | false => rfl
    | true =>
      have h3 : a < 16 := Nat.blt_eq.mp hh
      omega
  have hs : mm_s (mm_Y n xs) mm_M1 a = mm_s (mm_Y0 n xs) mm_M1 a := by
    unfold mm_s
    rw [b0, show Nat.blt a (mm_Y n xs).1 = true from Nat.blt_eq.mpr h2, cond_true, cond_false]
    exact (ini_sh h1 h2).symm
  have hp : ∀ k, mm_p (mm_Y n xs) mm_M1 a k = mm_p (mm_Y0 n xs) mm_M1 a k := by
    intro k
    rw [ini_fx h2]
    unfold mm_p mm_fx
    rw [b0, cond_false]
  have hv : ∀ t k, mm_fv ρ (mm_Y n xs) mm_M1 a t k = mm_fv ρ (mm_Y0 n xs) mm_M1 a t k := by
    intro t k
    cases t <;> first | rfl | (unfold mm_fv; rw [hp k])
  have hf : ∀ ci, mm_fs ρ (mm_Y n xs) mm_M1 a ci = mm_fs ρ (mm_Y0 n xs) mm_M1 a ci := by
    intro ci
    unfold mm_fs
    exact List.map_congr_left fun k _ => hv _ k
  have hc : ∀ ty, mm_ct ρ (mm_Y n xs) mm_M1 a ty = mm_ct ρ (mm_Y0 n xs) mm_M1 a ty := by
    intro ty
    rcases ty with _ | _ | _ | _ | ty
    · rfl
    · rfl
    · rfl
    · rfl
    · unfold mm_ct
      simp only [hp]
  unfold mm_cell
  rw [hs]
  cases mm_s (mm_Y0 n xs) mm_M1 a with
  | inl ci => simp only [hf]
  | inr q => simp only [hc]
theorem ini_enc {cA : Nat → ClassId} {ρ : Nat → Nat} {n : Nat} {xs : Nat → Int32} : mm_enc cA ρ (mm_Y n xs) mm_M1 = mm_enc cA ρ (mm_Y0 n xs) mm_M1 := by
  unfold mm_enc
  refine List.map_congr_left fun j hj => ?_
  rw [List.mem_range, ini_n] at hj
  rw [ini_cell (by omega) (by omega)]
theorem ini_wf {n : Nat} {xs : Nat → Int32} : mm_wf (mm_Y n xs) mm_M1 := by
  refine ⟨by rw [ini_n]; exact Nat.le_refl 87, fun a k b h1 h2 h3 => ?_⟩
  rw [ini_n] at h2 ⊢
  rw [ini_fx h2] at h3
  exact ini_P a k b h3
theorem law_wfY0 (n : Nat) (xs : Nat → Int32) : mm_wfY (mm_Y0 n xs) := ⟨Nat.le_refl 16, (law_wfY n xs).2⟩
section ST
variable {p : Program} {l : Launch} {e : Env} {s : State} {m : MethodId} {b n : Nat} {xs : Nat → Int32} {below : List Frame} {meth : Method} {c : Code} {D : va_G} {cA : Nat → ClassId} {ρ0 : Nat → Nat}
theorem law_first (hC : LC p s m meth c b n xs D cA ρ0) (hn : n ≤ 3072) (hMin : MIN p l e s m b below meth c D cA ρ0 n xs 10000) : GdL p l e s m b below meth c D cA ρ0 (mm_Y0 n xs) 0 30000 0 [some (.ref 9), none, none, none, none, none, none] [] mm_M0 := by
  refine law_seg hC (law_wfY0 n xs) (fun _ _ => ⟨rfl, rfl⟩) (N := 10000) (d := 8) (t' := 23) (L' := Lr 0) (K' := []) (M' := mm_M1) (by omega) (law_hat (by decide)) ((ini_ex n xs 10000 0 _).trans (jT_at _ _ _ _)) (by rw [ini_n]; omega) (by rw [ini_z]; omega) ?_
  have h := law_loop hC hn hMin (n + 1) 0 0 30000 mm_M1 (by omega) (by omega) (by omega) (by omega) (TI_M1 (Nat.le_refl _))
  rw [nI_0] at h
  intro a1 a2 a3 a4 a5
  obtain ⟨h1, h2⟩ := h ini_wf a2 a3 a4 a5
  refine ⟨⟨a1, Nat.le_refl _, Nat.le_refl _⟩, fun ρ H locs ls b1 b2 b3 b4 b5 => ?_⟩
  exact h2 ρ H locs ls b1 (by rw [ini_enc]; exact b2) (by rw [ini_enc]; exact b3) b4 b5
theorem law_run (hL : n ≤ 3072) (C0 : lw_At p s m meth c b n xs) (hMin : ∀ (D : va_G) (cA : Nat → ClassId) (ρ0 : Nat → Nat), LC p s m meth c b n xs D cA ρ0 → MIN p l e s m b below meth c D cA ρ0 n xs 10000) : W p l e room_1 s m #[Value.ref b] below meth c s.heap [] 0 0 (lw_Z below #[Value.ref b] s) (entryFrame m ([Value.ref b] : List Value).toArray 7) := by
  obtain ⟨hx, hb, hr, hml, hown, hts, hX, hbl, hlocks, hgv⟩ := C0
  have hA : ∀ a : Nat, a < s.heap.size → ¬ va_A [] s.heap.size a := by
    rintro a ha (⟨k, e9, h⟩ | h)
    · cases h
    · omega
  obtain ⟨D, cA, ρ0, hK, hT, hZ, hN, hO, h5, hρ⟩ := wd_start hL hA hts hgv hX hbl
  have hC : LC p s m meth c b n xs D cA ρ0 := ⟨hx, hb, hr, hml, hown, hlocks, hts, hK, hT, hZ, hN, hO, h5⟩
  have h := law_first (below := below) (e := e) (l := l) hC hL (hMin D cA ρ0 hC)
  subst hρ
  have hl := lv_entry (([.ref 9] : List Value).map (mm_tr ρ0)) (n := 7) (by rw [mm_sl_len]; decide)
  show W p l e room_1 s m #[Value.ref (ρ0 9)] below meth c s.heap [] 0 0 (lw_Z below #[Value.ref (ρ0 9)] s) (entryFrame m (([.ref 9] : List Value).map (mm_tr ρ0)).toArray 7)
  rw [lg_entry_eq]
  generalize (lg_sl (([.ref 9] : List Value).map (mm_tr ρ0)) ++ List.replicate (7 - (lg_sl (([.ref 9] : List Value).map (mm_tr ρ0))).length) Slot.unset).toArray = ls at hl ⊢
  have hks : mm_ks 16 [Value.ref 9] := fun x hx1 => by
    rw [List.mem_singleton] at hx1
    subst hx1
    exact (by decide : (9 : Nat) < 16)
  have hlc : mm_lc ρ0 16 (mm_ent 7 [.ref 9]) ls 7 := by
    refine ⟨hl.1, hl.2.1, Nat.le_refl _, fun j x hx => ?_⟩
    obtain ⟨a1, a2⟩ := mm_fl_at (ρ := ρ0) 0 [.ref 9] j x (mm_ent_at hx)
    rw [Nat.zero_add] at a1
    exact ⟨hl.2.2 _ a1, hks x a2⟩
  exact (h ⟨Nat.le_refl _, fun a k b h1 h2 => absurd h2 (by show ¬ a < 16; omega)⟩ (Nat.le_refl _) (Nat.le_refl _) (fun x hx => by cases hx) (mm_ent_lk (k := 7) hks)).2 ρ0 s.heap [] ls (fun _ _ => rfl) (fun k q hq => by cases hq) ⟨fun i j p q hp => (by cases hp), fun k q hq => (by cases hq)⟩ va_S.rf hlc
end ST
