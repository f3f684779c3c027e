theorem mm_wf_wP {Y : mmY} {M : mmM} {o k x : Nat} (hw : mm_wf Y M) (hx : x < M.2.1) (hf : mm_free Y o k = true) : mm_wf Y (mm_wP M o k (some x)) := by
  refine ⟨hw.1, fun a j b ha1 ha2 hb2 => ?_⟩
  by_cases e : a = o
  · subst e
    by_cases e2 : j = k
    · subst e2
      rw [mm_p_wP_same hf] at hb2
      cases hb2
      exact hx
    · rw [mm_p_wP_nk e2] at hb2
      exact hw.2 a j b ha1 ha2 hb2
  · rw [mm_p_wP e] at hb2
    exact hw.2 a j b ha1 ha2 hb2
/-- what an evaluation leaves of the memory -/
def mm_Po (Y : mmY) (res : mmR) (n z : Nat) : Prop := mm_wf Y res.2 ∧ n ≤ res.2.2.1 ∧ z ≤ res.2.2.2.1 ∧ ∀ x, res.1 = some x → mm_okv res.2.2.1 x
def mm_Pu (Y : mmY) (res : mmR) (L : mmL) (K : List Value) (M : mmM) : Prop := mm_wf Y M → 16 ≤ M.2.1 → mm_ks M.2.1 K → mm_lk M.2.1 L → mm_Po Y res M.2.1 M.2.2.1
theorem mm_Po_le {Y : mmY} {res : mmR} {n z n' z' : Nat} (h : mm_Po Y res n' z') (h1 : n ≤ n') (h2 : z ≤ z') : mm_Po Y res n z := ⟨h.1, Nat.le_trans h1 h.2.1, Nat.le_trans h2 h.2.2.1, h.2.2.2⟩

theorem mi_br {c : ClassFile.Cond} {x y : Int32} {t f : Option mmR} {res : mmR} (h : mm_br c x y t f = some res) : t = some res ∨ f = some res := by
  unfold mm_br at h
  cases c <;> simp only at h <;> split at h <;> first | exact Or.inl h | exact Or.inr h

theorem mp_inv {Y : mmY} {call : mmC} {res : mmR} (hcall : ∀ (j : Nat) (as : List Value) (M : mmM) (v : Option Value) (M' : mmM), call j as M = some (v, M') → mm_wf Y M → 16 ≤ M.2.1 → mm_ks M.2.1 as → mm_Po Y (v, M') M.2.1 M.2.2.1) {j n c ci : Nat} {L : mmL} {K : List Value} {M : mmM} {k : mmK} (h : mm_inv Y call j n c ci L K M k = some res) (hk : ∀ (L' : mmL) (K' : List Value) (M' : mmM), k L' K' M' = some res → mm_Pu Y res L' K' M') : mm_Pu Y res L K M := by
  intro a1 a2 a3 a4
  obtain ⟨p9, hp9, h1⟩ := mi_bind h
  obtain ⟨as, rest0⟩ := p9
  obtain ⟨bs, e1, rfl, hlen⟩ := mm_pop_eq _ _ _ _ _ hp9
  rw [List.append_nil] at e1
  subst e1
  obtain ⟨o, rest, e2, h2⟩ := mi_pR h1
  simp only at e2
  subst e2
  obtain ⟨hi, h3⟩ := mi_cond h2
  obtain ⟨v9, m9, hev, h4⟩ := mi_ans h3
  have hk9 : mm_ks M.2.1 (.ref o :: as) := fun x hx1 => by
    rcases List.mem_cons.mp hx1 with rfl | hx1
    · exact a3 _ (List.mem_append_right _ List.mem_cons_self)
    · exact a3 _ (List.mem_append_left _ (List.mem_reverse.mpr hx1))
  obtain ⟨c1, c2, c3, c4⟩ := hcall _ _ _ _ _ hev a1 a2 hk9
  refine mm_Po_le (hk _ _ _ h4 c1 (Nat.le_trans a2 c2) (fun x hx1 => ?_) (fun i x hx1 => mm_okv_le (a4 i x hx1) c2)) c2 c3
  rcases List.mem_append.mp hx1 with h9 | h9
  · exact c4 x (by cases v9 with | none => cases h9 | some y => simp at h9; rw [h9])
  · exact mm_okv_le (a3 _ (List.mem_append_right _ (List.mem_cons_of_mem _ h9))) c2
theorem mp_invS {Y : mmY} {call : mmC} {res : mmR} (hcall : ∀ (j : Nat) (as : List Value) (M : mmM) (v : Option Value) (M' : mmM), call j as M = some (v, M') → mm_wf Y M → 16 ≤ M.2.1 → mm_ks M.2.1 as → mm_Po Y (v, M') M.2.1 M.2.2.1) {j n c : Nat} {L : mmL} {K : List Value} {M : mmM} {k : mmK} (h : mm_invS call j n c L K M k = some res) (hk : ∀ (L' : mmL) (K' : List Value) (M' : mmM), k L' K' M' = some res → mm_Pu Y res L' K' M') : mm_Pu Y res L K M := by
  intro a1 a2 a3 a4
  obtain ⟨p9, hp9, h1⟩ := mi_bind h
  obtain ⟨as, rest⟩ := p9
  obtain ⟨bs, e1, rfl, hlen⟩ := mm_pop_eq _ _ _ _ _ hp9
  rw [List.append_nil] at e1
  subst e1
  obtain ⟨hi, h3⟩ := mi_cond h1
  obtain ⟨v9, m9, hev, h4⟩ := mi_ans h3
  have hk9 : mm_ks M.2.1 as := fun x hx1 => a3 _ (List.mem_append_left _ (List.mem_reverse.mpr hx1))
  obtain ⟨c1, c2, c3, c4⟩ := hcall _ _ _ _ _ hev a1 a2 hk9
  refine mm_Po_le (hk _ _ _ h4 c1 (Nat.le_trans a2 c2) (fun x hx1 => ?_) (fun i x hx1 => mm_okv_le (a4 i x hx1) c2)) c2 c3
  rcases List.mem_append.mp hx1 with h9 | h9
  · exact c4 x (by cases v9 with | none => cases h9 | some y => simp at h9; rw [h9])
  · exact mm_okv_le (a3 _ (List.mem_append_right _ h9)) c2

set_option maxHeartbeats 8000000 in
theorem mp_sem {Y : mmY} {call : mmC} {res : mmR} {mth : List mmT} {own nm : String} {rt : Option FieldType} {nL pc : Nat} (hY : mm_wfY Y) (hcall : ∀ (j : Nat) (as : List Value) (M : mmM) (v : Option Value) (M' : mmM), call j as M = some (v, M') → mm_wf Y M → 16 ≤ M.2.1 → mm_ks M.2.1 as → mm_Po Y (v, M') M.2.1 M.2.2.1) {i : Instr} {len a b c9 : Nat} {v : Value} {w : List (Int32 × Nat)} {L : mmL} {K : List Value} {M : mmM} {k : mmK} {g : mmG} (hok : mm_okI mth own nm rt nL pc i len a b c9 v w = true)
    (h : mm_sem Y call i a b c9 v w L K M k g = some res) (hk : ∀ (L' : mmL) (K' : List Value) (M' : mmM), k L' K' M' = some res → mm_Pu Y res L' K' M') (hg : ∀ (t : Nat) (L' : mmL) (K' : List Value) (M' : mmM), g t L' K' M' = some res → mm_Pu Y res L' K' M') : mm_Pu Y res L K M := by
  cases i with
  | iconst z =>
    intro a1 a2 a3 a4
    obtain ⟨-, rfl⟩ := of_decide_eq_true hok
    exact hk _ _ _ h a1 a2 (mm_ks_cons trivial a3) a4
  | bipush z =>
    intro a1 a2 a3 a4
    obtain ⟨-, rfl⟩ := of_decide_eq_true hok
    exact hk _ _ _ h a1 a2 (mm_ks_cons trivial a3) a4
  | sipush z =>
    intro a1 a2 a3 a4
    obtain ⟨-, rfl⟩ := of_decide_eq_true hok
    exact hk _ _ _ h a1 a2 (mm_ks_cons trivial a3) a4
  | lconst z =>
    intro a1 a2 a3 a4
    obtain ⟨-, rfl⟩ := of_decide_eq_true hok
    exact hk _ _ _ h a1 a2 (mm_ks_cons trivial a3) a4
  | ldc idx =>
    intro a1 a2 a3 a4
    simp only [mm_okI, Bool.and_eq_true, decide_eq_true_eq] at hok
    obtain ⟨-, hv⟩ := hok
    cases v with
    | int x => exact hk _ _ _ h a1 a2 (mm_ks_cons trivial a3) a4
    | _ => cases hv
  | ldc_w idx =>
    intro a1 a2 a3 a4
    simp only [mm_okI, Bool.and_eq_true, decide_eq_true_eq] at hok
    obtain ⟨-, hv⟩ := hok
    cases v with
    | int x => exact hk _ _ _ h a1 a2 (mm_ks_cons trivial a3) a4
    | _ => cases hv
  | ldc2_w idx =>
    intro a1 a2 a3 a4
    simp only [mm_okI, Bool.and_eq_true, decide_eq_true_eq] at hok
    obtain ⟨-, hv⟩ := hok
    cases v with
    | long x => exact hk _ _ _ h a1 a2 (mm_ks_cons trivial a3) a4
    | _ => cases hv
  | iload_n k9 =>
    intro a1 a2 a3 a4
    obtain ⟨v9, hv9, h1⟩ := mi_ld h
    obtain ⟨x, e9, h2⟩ := mi_isI h1
    exact hk _ _ _ h2 a1 a2 (mm_ks_cons (a4 _ _ hv9) a3) a4
  | iload k9 =>
    intro a1 a2 a3 a4
    obtain ⟨v9, hv9, h1⟩ := mi_ld h
    obtain ⟨x, e9, h2⟩ := mi_isI h1
    exact hk _ _ _ h2 a1 a2 (mm_ks_cons (a4 _ _ hv9) a3) a4
  | lload_n k9 =>
    intro a1 a2 a3 a4
    obtain ⟨v9, hv9, h1⟩ := mi_ld h
    obtain ⟨x, e9, h2⟩ := mi_isJ h1
    exact hk _ _ _ h2 a1 a2 (mm_ks_cons (a4 _ _ hv9) a3) a4
  | lload k9 =>
    intro a1 a2 a3 a4
    obtain ⟨v9, hv9, h1⟩ := mi_ld h
    obtain ⟨x, e9, h2⟩ := mi_isJ h1
    exact hk _ _ _ h2 a1 a2 (mm_ks_cons (a4 _ _ hv9) a3) a4
  | aload_n k9 =>
    intro a1 a2 a3 a4
    obtain ⟨v9, hv9, h1⟩ := mi_ld h
    obtain ⟨e9, h2⟩ := mi_isA h1
    exact hk _ _ _ h2 a1 a2 (mm_ks_cons (a4 _ _ hv9) a3) a4
  | aload k9 =>
    intro a1 a2 a3 a4
    obtain ⟨v9, hv9, h1⟩ := mi_ld h
    obtain ⟨e9, h2⟩ := mi_isA h1
    exact hk _ _ _ h2 a1 a2 (mm_ks_cons (a4 _ _ hv9) a3) a4
  | istore_n k9 =>
    intro a1 a2 a3 a4
    obtain ⟨x, r, rfl, h1⟩ := mi_pI h
    exact hk _ _ _ ((mm_nrm_eq _ _).symm.trans h1) a1 a2 (mm_ks_tail a3) (mm_st1_lk a4 trivial)
  | istore k9 =>
    intro a1 a2 a3 a4
    obtain ⟨x, r, rfl, h1⟩ := mi_pI h
    exact hk _ _ _ ((mm_nrm_eq _ _).symm.trans h1) a1 a2 (mm_ks_tail a3) (mm_st1_lk a4 trivial)
  | lstore_n k9 =>
    intro a1 a2 a3 a4
    obtain ⟨x, r, rfl, h1⟩ := mi_pJ h
    exact hk _ _ _ ((mm_nrm_eq _ _).symm.trans h1) a1 a2 (mm_ks_tail a3) (mm_st2_lk a4 trivial)
  | lstore k9 =>
    intro a1 a2 a3 a4
    obtain ⟨x, r, rfl, h1⟩ := mi_pJ h
    exact hk _ _ _ ((mm_nrm_eq _ _).symm.trans h1) a1 a2 (mm_ks_tail a3) (mm_st2_lk a4 trivial)
  | astore_n k9 =>
    intro a1 a2 a3 a4
    rcases mi_pN h with ⟨x, r, rfl, h1⟩ | ⟨r, rfl, h1⟩
    · exact hk _ _ _ ((mm_nrm_eq _ _).symm.trans h1) a1 a2 (mm_ks_tail a3) (mm_st1_lk a4 (mm_ks_head a3))
    · exact hk _ _ _ ((mm_nrm_eq _ _).symm.trans h1) a1 a2 (mm_ks_tail a3) (mm_st1_lk a4 trivial)
  | astore k9 =>
    intro a1 a2 a3 a4
    rcases mi_pN h with ⟨x, r, rfl, h1⟩ | ⟨r, rfl, h1⟩
    · exact hk _ _ _ ((mm_nrm_eq _ _).symm.trans h1) a1 a2 (mm_ks_tail a3) (mm_st1_lk a4 (mm_ks_head a3))
    · exact hk _ _ _ ((mm_nrm_eq _ _).symm.trans h1) a1 a2 (mm_ks_tail a3) (mm_st1_lk a4 trivial)
  | iinc k9 z =>
    intro a1 a2 a3 a4
    obtain ⟨v9, hv9, h1⟩ := mi_ld h
    obtain ⟨y9, r9, e1, h2⟩ := mi_pI h1
    obtain ⟨n9, r8, e2, h3⟩ := mi_pI h2
    exact hk _ _ _ ((mm_nrm_eq _ _).symm.trans h3) a1 a2 a3 (mm_st1_lk a4 trivial)
  | iadd =>
    intro a1 a2 a3 a4
    obtain ⟨x, y, r, rfl, h1⟩ := mi_pII h
    exact hk _ _ _ h1 a1 a2 (mm_ks_cons trivial (mm_ks_tail (mm_ks_tail a3))) a4
  | isub =>
    intro a1 a2 a3 a4
    obtain ⟨x, y, r, rfl, h1⟩ := mi_pII h
    exact hk _ _ _ h1 a1 a2 (mm_ks_cons trivial (mm_ks_tail (mm_ks_tail a3))) a4
  | imul =>
    intro a1 a2 a3 a4
    obtain ⟨x, y, r, rfl, h1⟩ := mi_pII h
    exact hk _ _ _ h1 a1 a2 (mm_ks_cons trivial (mm_ks_tail (mm_ks_tail a3))) a4
  | iand =>
    intro a1 a2 a3 a4
    obtain ⟨x, y, r, rfl, h1⟩ := mi_pII h
    exact hk _ _ _ h1 a1 a2 (mm_ks_cons trivial (mm_ks_tail (mm_ks_tail a3))) a4
  | ior =>
    intro a1 a2 a3 a4
    obtain ⟨x, y, r, rfl, h1⟩ := mi_pII h
    exact hk _ _ _ h1 a1 a2 (mm_ks_cons trivial (mm_ks_tail (mm_ks_tail a3))) a4
  | ixor =>
    intro a1 a2 a3 a4
    obtain ⟨x, y, r, rfl, h1⟩ := mi_pII h
    exact hk _ _ _ h1 a1 a2 (mm_ks_cons trivial (mm_ks_tail (mm_ks_tail a3))) a4
  | ishl =>
    intro a1 a2 a3 a4
    obtain ⟨x, y, r, rfl, h1⟩ := mi_pII h
    exact hk _ _ _ h1 a1 a2 (mm_ks_cons trivial (mm_ks_tail (mm_ks_tail a3))) a4
  | ishr =>
    intro a1 a2 a3 a4
    obtain ⟨x, y, r, rfl, h1⟩ := mi_pII h
    exact hk _ _ _ h1 a1 a2 (mm_ks_cons trivial (mm_ks_tail (mm_ks_tail a3))) a4
  | iushr =>
    intro a1 a2 a3 a4
    obtain ⟨x, y, r, rfl, h1⟩ := mi_pII h
    exact hk _ _ _ h1 a1 a2 (mm_ks_cons trivial (mm_ks_tail (mm_ks_tail a3))) a4
  | idiv =>
    intro a1 a2 a3 a4
    obtain ⟨x, y, r, rfl, h1⟩ := mi_pII h
    by_cases hy0 : y = 0
    · rw [if_pos hy0] at h1; cases h1
    · rw [if_neg hy0] at h1; exact hk _ _ _ h1 a1 a2 (mm_ks_cons trivial (mm_ks_tail (mm_ks_tail a3))) a4
  | irem =>
    intro a1 a2 a3 a4
    obtain ⟨x, y, r, rfl, h1⟩ := mi_pII h
    by_cases hy0 : y = 0
    · rw [if_pos hy0] at h1; cases h1
    · rw [if_neg hy0] at h1; exact hk _ _ _ h1 a1 a2 (mm_ks_cons trivial (mm_ks_tail (mm_ks_tail a3))) a4
  | ladd =>
    intro a1 a2 a3 a4
    obtain ⟨x, y, r, rfl, h1⟩ := mi_pJJ h
    exact hk _ _ _ h1 a1 a2 (mm_ks_cons trivial (mm_ks_tail (mm_ks_tail a3))) a4
  | lsub =>
    intro a1 a2 a3 a4
    obtain ⟨x, y, r, rfl, h1⟩ := mi_pJJ h
    exact hk _ _ _ h1 a1 a2 (mm_ks_cons trivial (mm_ks_tail (mm_ks_tail a3))) a4
  | lmul =>
    intro a1 a2 a3 a4
    obtain ⟨x, y, r, rfl, h1⟩ := mi_pJJ h
    exact hk _ _ _ h1 a1 a2 (mm_ks_cons trivial (mm_ks_tail (mm_ks_tail a3))) a4
  | land =>
    intro a1 a2 a3 a4
    obtain ⟨x, y, r, rfl, h1⟩ := mi_pJJ h
    exact hk _ _ _ h1 a1 a2 (mm_ks_cons trivial (mm_ks_tail (mm_ks_tail a3))) a4
  | lor =>
    intro a1 a2 a3 a4
    obtain ⟨x, y, r, rfl, h1⟩ := mi_pJJ h
    exact hk _ _ _ h1 a1 a2 (mm_ks_cons trivial (mm_ks_tail (mm_ks_tail a3))) a4
  | lcmp =>
    intro a1 a2 a3 a4
    obtain ⟨x, y, r, rfl, h1⟩ := mi_pJJ h
    exact hk _ _ _ h1 a1 a2 (mm_ks_cons trivial (mm_ks_tail (mm_ks_tail a3))) a4
  | ldiv =>
    intro a1 a2 a3 a4
    obtain ⟨x, y, r, rfl, h1⟩ := mi_pJJ h
    by_cases hy0 : y = 0
    · rw [if_pos hy0] at h1; cases h1
    · rw [if_neg hy0] at h1; exact hk _ _ _ h1 a1 a2 (mm_ks_cons trivial (mm_ks_tail (mm_ks_tail a3))) a4
  | lrem =>
    intro a1 a2 a3 a4
    obtain ⟨x, y, r, rfl, h1⟩ := mi_pJJ h
    by_cases hy0 : y = 0
    · rw [if_pos hy0] at h1; cases h1
    · rw [if_neg hy0] at h1; exact hk _ _ _ h1 a1 a2 (mm_ks_cons trivial (mm_ks_tail (mm_ks_tail a3))) a4
  | lshl =>
    intro a1 a2 a3 a4
    obtain ⟨x, y, r, rfl, h1⟩ := mi_pJI h
    exact hk _ _ _ h1 a1 a2 (mm_ks_cons trivial (mm_ks_tail (mm_ks_tail a3))) a4
  | lushr =>
    intro a1 a2 a3 a4
    obtain ⟨x, y, r, rfl, h1⟩ := mi_pJI h
    exact hk _ _ _ h1 a1 a2 (mm_ks_cons trivial (mm_ks_tail (mm_ks_tail a3))) a4
  | ineg =>
    intro a1 a2 a3 a4
    obtain ⟨x, r, rfl, h1⟩ := mi_pI h
    exact hk _ _ _ h1 a1 a2 (mm_ks_cons trivial (mm_ks_tail a3)) a4
  | i2l =>
    intro a1 a2 a3 a4
    obtain ⟨x, r, rfl, h1⟩ := mi_pI h
    exact hk _ _ _ h1 a1 a2 (mm_ks_cons trivial (mm_ks_tail a3)) a4
  | l2i =>
    intro a1 a2 a3 a4
    obtain ⟨x, r, rfl, h1⟩ := mi_pJ h
    exact hk _ _ _ h1 a1 a2 (mm_ks_cons trivial (mm_ks_tail a3)) a4
  | dup =>
    intro a1 a2 a3 a4
    obtain ⟨x, r, rfl, hc9, h1⟩ := mi_p1 h
    exact hk _ _ _ h1 a1 a2 (mm_ks_cons (mm_ks_head a3) a3) a4
  | pop =>
    intro a1 a2 a3 a4
    obtain ⟨x, r, rfl, hc9, h1⟩ := mi_p1 h
    exact hk _ _ _ h1 a1 a2 (mm_ks_tail a3) a4
  | dup2 =>
    intro a1 a2 a3 a4
    obtain ⟨x, y, r, rfl, hc8, hc9, h1⟩ := mi_p11 h
    exact hk _ _ _ h1 a1 a2 (mm_ks_cons (mm_ks_head a3) (mm_ks_cons (mm_ks_head (mm_ks_tail a3)) a3)) a4
  | goto o9 =>
    intro a1 a2 a3 a4
    exact hg _ _ _ _ h a1 a2 a3 a4
  | ifCond q9 o9 =>
    intro a1 a2 a3 a4
    obtain ⟨x, r, rfl, h1⟩ := mi_pI h
    rcases mi_br h1 with h2 | h2
    · exact hg _ _ _ _ h2 a1 a2 (mm_ks_tail a3) a4
    · exact hk _ _ _ h2 a1 a2 (mm_ks_tail a3) a4
  | if_icmp q9 o9 =>
    intro a1 a2 a3 a4
    obtain ⟨x, y, r, rfl, h1⟩ := mi_pII h
    rcases mi_br h1 with h2 | h2
    · exact hg _ _ _ _ h2 a1 a2 (mm_ks_tail (mm_ks_tail a3)) a4
    · exact hk _ _ _ h2 a1 a2 (mm_ks_tail (mm_ks_tail a3)) a4
  | ifnull o9 =>
    intro a1 a2 a3 a4
    rcases mi_pN h with ⟨x, r, rfl, h1⟩ | ⟨r, rfl, h1⟩
    · exact hk _ _ _ h1 a1 a2 (mm_ks_tail a3) a4
    · exact hg _ _ _ _ h1 a1 a2 (mm_ks_tail a3) a4
  | ifnonnull o9 =>
    intro a1 a2 a3 a4
    rcases mi_pN h with ⟨x, r, rfl, h1⟩ | ⟨r, rfl, h1⟩
    · exact hg _ _ _ _ h1 a1 a2 (mm_ks_tail a3) a4
    · exact hk _ _ _ h1 a1 a2 (mm_ks_tail a3) a4
  | tableswitch d9 lo hi offs =>
    intro a1 a2 a3 a4
    obtain ⟨x, r, rfl, h1⟩ := mi_pI h
    rcases mm_sw_in _ h1 with ⟨j, q, -, -, -, h4⟩ | ⟨-, h4⟩
    · exact hg _ _ _ _ h4 a1 a2 (mm_ks_tail a3) a4
    · exact hg _ _ _ _ h4 a1 a2 (mm_ks_tail a3) a4
  | lookupswitch d9 ps9 =>
    intro a1 a2 a3 a4
    obtain ⟨x, r, rfl, h1⟩ := mi_pI h
    rcases mm_sw_in _ h1 with ⟨j, q, -, -, -, h4⟩ | ⟨-, h4⟩
    · exact hg _ _ _ _ h4 a1 a2 (mm_ks_tail a3) a4
    · exact hg _ _ _ _ h4 a1 a2 (mm_ks_tail a3) a4
  | ireturn =>
    intro a1 a2 a3 a4
    obtain ⟨x, r, rfl, h1⟩ := mi_pI h
    cases r with
    | cons z zs => cases h1
    | nil =>
      cases b with
      | zero =>
        cases h1
        exact ⟨a1, Nat.le_refl _, Nat.le_refl _, fun z hz => by cases hz; trivial⟩
      | succ b =>
        by_cases h0 : x = 0
        · simp only [h0] at h1
          cases h1
          exact ⟨a1, Nat.le_refl _, Nat.le_refl _, fun z hz => by cases hz; trivial⟩
        · by_cases h2 : x = 1
          · subst h2
            cases h1
            exact ⟨a1, Nat.le_refl _, Nat.le_refl _, fun z hz => by cases hz; trivial⟩
          · simp only [if_neg h0, if_neg h2] at h1
            cases h1
  | lreturn =>
    intro a1 a2 a3 a4
    obtain ⟨x, r, rfl, h1⟩ := mi_pJ h
    cases r with
    | cons z zs => cases h1
    | nil =>
      cases h1
      exact ⟨a1, Nat.le_refl _, Nat.le_refl _, fun z hz => by cases hz; trivial⟩
  | areturn =>
    intro a1 a2 a3 a4
    obtain ⟨x, r, rfl, h1⟩ := mi_pR h
    cases r with
    | cons z zs => cases h1
    | nil =>
      cases h1
      exact ⟨a1, Nat.le_refl _, Nat.le_refl _, fun z hz => by cases hz; exact mm_ks_head a3⟩
  | return_ =>
    intro a1 a2 a3 a4
    cases K with
    | cons z zs => cases h
    | nil =>
      cases h
      exact ⟨a1, Nat.le_refl _, Nat.le_refl _, fun z hz => by cases hz⟩
  | getfield idx =>
    intro a1 a2 a3 a4
    cases hq : mm_cl[a]? with
    | none => simp only [mm_okI, hq] at hok; cases hok
    | some q =>
      obtain ⟨o, r, rfl, h1⟩ := mi_pR h
      obtain ⟨ho, h2⟩ := mi_cond h1
      have ho := mm_obj_eq ho
      have h16 := mm_s_lt hY ho hq
      rcases (show c9 % 4 = 0 ∨ c9 % 4 = 1 ∨ c9 % 4 = 2 ∨ c9 % 4 = 3 by omega) with h4 | h4 | h4 | h4
      · simp only [h4] at h2; exact hk _ _ _ h2 a1 a2 (mm_ks_cons trivial (mm_ks_tail a3)) a4
      · simp only [h4] at h2; exact hk _ _ _ h2 a1 a2 (mm_ks_cons trivial (mm_ks_tail a3)) a4
      · simp only [h4] at h2; exact hk _ _ _ h2 a1 a2 (mm_ks_cons (mm_okv_rv fun b9 hb9 => a1.2 o b b9 h16 (mm_ks_head a3) hb9) (mm_ks_tail a3)) a4
      · simp only [h4] at h2; exact hk _ _ _ h2 a1 a2 (mm_ks_cons trivial (mm_ks_tail a3)) a4
  | putfield idx =>
    intro a1 a2 a3 a4
    rcases (show c9 % 4 = 0 ∨ c9 % 4 = 1 ∨ c9 % 4 = 2 ∨ c9 % 4 = 3 by omega) with h4 | h4 | h4 | h4
    · simp only [mm_sem, h4] at h
      obtain ⟨x, r1, rfl, h1⟩ := mi_pI h
      obtain ⟨o, r, rfl, h2⟩ := mi_pR h1
      obtain ⟨ho, h3⟩ := mi_cond h2
      have z9 := hk _ _ _ h3; exact z9 a1 a2 (mm_ks_tail (mm_ks_tail a3)) a4
    · simp only [mm_sem, h4] at h
      obtain ⟨x, r1, rfl, h1⟩ := mi_pJ h
      obtain ⟨o, r, rfl, h2⟩ := mi_pR h1
      obtain ⟨ho, h3⟩ := mi_cond h2
      have z9 := hk _ _ _ h3; exact z9 a1 a2 (mm_ks_tail (mm_ks_tail a3)) a4
    · simp only [mm_sem, h4] at h
      obtain ⟨x, r1, rfl, h1⟩ := mi_pR h
      obtain ⟨o, r, rfl, h2⟩ := mi_pR h1
      obtain ⟨ho, h3⟩ := mi_cond h2
      rw [Bool.and_eq_true] at ho
      have z9 := hk _ _ _ h3; exact z9 (mm_wf_wP a1 (mm_ks_head a3) ho.2) a2 (mm_ks_tail (mm_ks_tail a3)) a4
    · simp only [mm_sem, h4] at h
      obtain ⟨x, r1, rfl, h1⟩ := mi_pI h
      obtain ⟨o, r, rfl, h2⟩ := mi_pR h1
      obtain ⟨ho, h3⟩ := mi_cond h2
      by_cases h0 : x = 0
      · rw [if_pos h0] at h3; have z9 := hk _ _ _ h3; exact z9 a1 a2 (mm_ks_tail (mm_ks_tail a3)) a4
      · by_cases h5 : x = 1
        · rw [if_neg h0, if_pos h5] at h3; have z9 := hk _ _ _ h3; exact z9 a1 a2 (mm_ks_tail (mm_ks_tail a3)) a4
        · rw [if_neg h0, if_neg h5] at h3; cases h3
  | getstatic idx =>
    intro a1 a2 a3 a4
    obtain ⟨-, ha9⟩ := of_decide_eq_true hok
    exact hk _ _ _ h a1 a2 (mm_ks_cons (show a < M.2.1 by omega) a3) a4
  | arraylength =>
    intro a1 a2 a3 a4
    obtain ⟨o, r, rfl, h1⟩ := mi_pR h
    cases ho : mm_s Y M o with
    | inl ci => simp only [ho] at h1; cases h1
    | inr q =>
      simp only [ho] at h1
      obtain ⟨hty, h2⟩ := mi_cond h1
      exact hk _ _ _ h2 a1 a2 (mm_ks_cons trivial (mm_ks_tail a3)) a4
  | iaload =>
    intro a1 a2 a3 a4
    obtain ⟨o, i9, r, rfl, h1⟩ := mi_pRI h
    obtain ⟨n9, ho, h2⟩ := mi_bind h1
    obtain ⟨hi, h3⟩ := mi_cond h2
    exact hk _ _ _ h3 a1 a2 (mm_ks_cons trivial (mm_ks_tail (mm_ks_tail a3))) a4
  | baload =>
    intro a1 a2 a3 a4
    obtain ⟨o, i9, r, rfl, h1⟩ := mi_pRI h
    obtain ⟨n9, ho, h2⟩ := mi_bind h1
    obtain ⟨hi, h3⟩ := mi_cond h2
    exact hk _ _ _ h3 a1 a2 (mm_ks_cons trivial (mm_ks_tail (mm_ks_tail a3))) a4
  | caload =>
    intro a1 a2 a3 a4
    obtain ⟨o, i9, r, rfl, h1⟩ := mi_pRI h
    obtain ⟨n9, ho, h2⟩ := mi_bind h1
    obtain ⟨hi, h3⟩ := mi_cond h2
    exact hk _ _ _ h3 a1 a2 (mm_ks_cons trivial (mm_ks_tail (mm_ks_tail a3))) a4
  | laload =>
    intro a1 a2 a3 a4
    obtain ⟨o, i9, r, rfl, h1⟩ := mi_pRI h
    obtain ⟨n9, ho, h2⟩ := mi_bind h1
    obtain ⟨hi, h3⟩ := mi_cond h2
    exact hk _ _ _ h3 a1 a2 (mm_ks_cons trivial (mm_ks_tail (mm_ks_tail a3))) a4
  | aaload =>
    intro a1 a2 a3 a4
    obtain ⟨o, i9, r, rfl, h1⟩ := mi_pRI h
    obtain ⟨n9, ho, h2⟩ := mi_bind h1
    obtain ⟨hi, h3⟩ := mi_cond h2
    rw [Bool.and_eq_true] at hi
    exact hk _ _ _ h3 a1 a2 (mm_ks_cons (mm_okv_rv fun b9 hb9 => a1.2 o _ b9 (Nat.le_of_ble_eq_true hi.2) (mm_ks_head (mm_ks_tail a3)) hb9) (mm_ks_tail (mm_ks_tail a3))) a4
  | iastore =>
    intro a1 a2 a3 a4
    obtain ⟨o, i9, x, r, rfl, h1⟩ := mi_pRII h
    obtain ⟨n9, ho, h2⟩ := mi_bind h1
    obtain ⟨hi, h3⟩ := mi_cond h2
    have z9 := hk _ _ _ h3; exact z9 a1 a2 (mm_ks_tail (mm_ks_tail (mm_ks_tail a3))) a4
  | bastore =>
    intro a1 a2 a3 a4
    obtain ⟨o, i9, x, r, rfl, h1⟩ := mi_pRII h
    obtain ⟨n9, ho, h2⟩ := mi_bind h1
    obtain ⟨hi, h3⟩ := mi_cond h2
    have z9 := hk _ _ _ h3; exact z9 a1 a2 (mm_ks_tail (mm_ks_tail (mm_ks_tail a3))) a4
  | lastore =>
    intro a1 a2 a3 a4
    obtain ⟨o, i9, x, r, rfl, h1⟩ := mi_pRIJ h
    obtain ⟨n9, ho, h2⟩ := mi_bind h1
    obtain ⟨hi, h3⟩ := mi_cond h2
    have z9 := hk _ _ _ h3; exact z9 a1 a2 (mm_ks_tail (mm_ks_tail (mm_ks_tail a3))) a4
  | aastore =>
    intro a1 a2 a3 a4
    obtain ⟨o, i9, x, r, rfl, h1⟩ := mi_pRIR h
    obtain ⟨n9, ho, h2⟩ := mi_bind h1
    obtain ⟨hi, h3⟩ := mi_cond h2
    simp only [Bool.and_eq_true] at hi
    obtain ⟨hi1, ⟨hi2, hi3, hi4⟩, hi5⟩ := hi
    have z9 := hk _ _ _ h3; exact z9 (mm_wf_wP a1 (mm_ks_head a3) hi4) a2 (mm_ks_tail (mm_ks_tail (mm_ks_tail a3))) a4
  | newarray at9 =>
    intro a1 a2 a3 a4
    obtain ⟨x, r, rfl, h1⟩ := mi_pI h
    obtain ⟨hi, h2⟩ := mi_cond h1
    exact mm_Po_le (hk _ _ _ h2 (mm_new_wf a1) (Nat.le_succ_of_le a2) (mm_ks_cons (Nat.lt_succ_self _) (mm_ks_le (mm_ks_tail a3) (Nat.le_succ _))) (fun i v hv => mm_okv_le (a4 i v hv) (Nat.le_succ _))) (Nat.le_succ _) (Nat.le_add_right _ _)
  | anewarray idx =>
    intro a1 a2 a3 a4
    obtain ⟨x, r, rfl, h1⟩ := mi_pI h
    obtain ⟨hi, h2⟩ := mi_cond h1
    exact mm_Po_le (hk _ _ _ h2 (mm_new_wf a1) (Nat.le_succ_of_le a2) (mm_ks_cons (Nat.lt_succ_self _) (mm_ks_le (mm_ks_tail a3) (Nat.le_succ _))) (fun i v hv => mm_okv_le (a4 i v hv) (Nat.le_succ _))) (Nat.le_succ _) (Nat.le_add_right _ _)
  | multianewarray idx k9 =>
    intro a1 a2 a3 a4
    obtain ⟨x, y, r, rfl, h1⟩ := mi_pII h
    obtain ⟨hi, h2⟩ := mi_cond h1
    exact mm_Po_le (hk _ _ _ h2 (mm_mna_wf a1) (by show 16 ≤ _ + 5; omega) (mm_ks_cons (by show _ < _ + 5; omega) (mm_ks_le (mm_ks_tail (mm_ks_tail a3)) (by show _ ≤ _ + 5; omega))) (fun i v hv => mm_okv_le (a4 i v hv) (by show _ ≤ _ + 5; omega))) (by show _ ≤ _ + 5; omega) (by show _ ≤ _ + 4; omega)
  | new idx =>
    intro a1 a2 a3 a4
    cases hz : mm_size[a]? with
    | none => simp only [mm_sem, hz] at h; cases h
    | some z =>
      simp only [mm_sem, hz] at h
      obtain ⟨hi, h2⟩ := mi_cond h
      exact mm_Po_le (hk _ _ _ h2 (mm_new_wf a1) (Nat.le_succ_of_le a2) (mm_ks_cons (Nat.lt_succ_self _) (mm_ks_le a3 (Nat.le_succ _))) (fun i v hv => mm_okv_le (a4 i v hv) (Nat.le_succ _))) (Nat.le_succ _) (Nat.le_add_right _ _)
  | invokevirtual idx =>
    exact mp_inv hcall h hk
  | invokestatic idx =>
    by_cases h4 : (c9 / 4) % 4 = 2
    · simp only [mm_sem, h4] at h
      intro a1 a2 a3 a4
      unfold mm_copy at h
      split at h
      · obtain ⟨x1, rfl, h1⟩ := mi_asR h
        obtain ⟨x2, rfl, h2⟩ := mi_asR h1
        obtain ⟨nb, hb1, h3⟩ := mi_bind h2
        obtain ⟨na, ha1, h5⟩ := mi_bind h3
        obtain ⟨hi, h6⟩ := mi_cond h5
        have z9 := hk _ _ _ h6; exact z9 a1 a2 (mm_ks_tail (mm_ks_tail (mm_ks_tail (mm_ks_tail (mm_ks_tail a3))))) a4
      · cases h
    · have h1 : mm_invS call a b (c9 % 4) L K M k = some res := by
        rcases (show (c9 / 4) % 4 = 0 ∨ (c9 / 4) % 4 = 1 ∨ (c9 / 4) % 4 = 3 by omega) with e4 | e4 | e4 <;> simpa only [mm_sem, e4] using h
      exact mp_invS hcall h1 hk
  | invokespecial idx =>
    by_cases h4 : (c9 / 4) % 4 = 2
    · simp only [mm_sem, h4] at h
      intro a1 a2 a3 a4
      obtain ⟨o, rest, rfl, h1⟩ := mi_pR h
      obtain ⟨hi, h2⟩ := mi_cond h1
      exact hk _ _ _ h2 a1 a2 (mm_ks_tail a3) a4
    · have h1 : mm_inv Y call a b 0 (c9 / 16) L K M k = some res := by
        rcases (show (c9 / 4) % 4 = 0 ∨ (c9 / 4) % 4 = 1 ∨ (c9 / 4) % 4 = 3 by omega) with e4 | e4 | e4 <;> simpa only [mm_sem, e4] using h
      exact mp_inv hcall h1 hk
  | _ => cases h
