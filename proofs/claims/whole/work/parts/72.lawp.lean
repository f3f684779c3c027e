/-- a number held -/
def hlN (x : Int) : Int := if x < -1000000 then -1000000 else if 1000000 < x then 1000000 else x
def opv (t : Int32) (a b : Int) : Int :=
  if t = -43 then hlN (a + b) else if t = -45 then hlN (a - b) else if t = -42 then hlN (a * b) else if t = -47 then (if b = 0 then 0 else hlN (a.tdiv b)) else if t = -60 then (if a < b then 1 else 0) else if t = -61 then (if a = b then 1 else 0) else if t = -62 then (if b < a then 1 else 0) else if t = -38 then (if a = 0 ∨ b = 0 then 0 else 1) else (if a = 0 ∧ b = 0 then 0 else 1)
def ltr (t : Int32) : Option Nat := if t = -119 then some 0 else if t = -115 then some 1 else if t = -110 then some 2 else if t = -121 then some 3 else if t = -97 then some 4 else if t = -99 then some 5 else none
/-- one sign of a law, on a pile -/
def stp (e : Nat → Int) (t : Int32) (st : List Int) : List Int :=
  if 0 ≤ t.toInt then t.toInt :: st else match ltr t with
    | some i => e i :: st
    | none => if t = -33 then (match st with | a :: r => (1 - a) :: r | [] => []) else (match st with | b :: a :: r => opv t a b :: r | _ => [])
/-- the same of kinds: true where a truth lies -/
def tyS (t : Int32) (ts : List Bool) : Option (List Bool) :=
  if 0 ≤ t.toInt then (if t.toInt ≤ 1000000 then some (false :: ts) else none) else match ltr t with
    | some _ => some (false :: ts)
    | none => if t = -33 then (match ts with | true :: r => some (true :: r) | _ => none)
      else if t = -43 ∨ t = -45 ∨ t = -42 ∨ t = -47 then (match ts with | false :: false :: r => some (false :: r) | _ => none)
      else if t = -60 ∨ t = -61 ∨ t = -62 then (match ts with | false :: false :: r => some (true :: r) | _ => none)
      else if t = -38 ∨ t = -124 then (match ts with | true :: true :: r => some (true :: r) | _ => none) else none
def tyR : List Int32 → List Bool → Option (List Bool)
  | [], ts => some ts
  | t :: r, ts => if ts.length < 60 then (tyS t ts).bind (tyR r) else none
def runL (e : Nat → Int) : List Int32 → List Int → List Int
  | [], st => st
  | t :: r, st => runL e r (stp e t st)
def OKS : List Bool → List Int → Prop
  | [], [] => True
  | b :: r, v :: s => (-1000000 ≤ v ∧ v ≤ 1000000) ∧ (b = true → v = 0 ∨ v = 1) ∧ OKS r s
  | _, _ => False
/-- the pile lies in a row -/
def PS (g : Nat → Int32) : List Int → Prop
  | [] => True
  | v :: r => (g r.length).toInt = v ∧ PS g r
/-- what a sign may be, and how the kinds lie -/
def TC (t : Int32) (ts ts' : List Bool) : Prop :=
  (0 ≤ t.toInt ∧ t.toInt ≤ 1000000 ∧ ts' = false :: ts) ∨ (t.toInt < 0 ∧ ts' = false :: ts ∧ (t = -119 ∨ t = -115 ∨ t = -110 ∨ t = -121 ∨ t = -97 ∨ t = -99)) ∨
  (t = -33 ∧ ∃ r, ts = true :: r ∧ ts' = true :: r) ∨ ((t = -43 ∨ t = -45 ∨ t = -42 ∨ t = -47) ∧ ∃ r, ts = false :: false :: r ∧ ts' = false :: r) ∨
  ((t = -60 ∨ t = -61 ∨ t = -62) ∧ ∃ r, ts = false :: false :: r ∧ ts' = true :: r) ∨ ((t = -38 ∨ t = -124) ∧ ∃ r, ts = true :: true :: r ∧ ts' = true :: r)
theorem hlN_bd (x : Int) : -1000000 ≤ hlN x ∧ hlN x ≤ 1000000 := by
  unfold hlN
  repeat' split
  all_goals omega
theorem hlN_id {x : Int} (h1 : -1000000 ≤ x) (h2 : x ≤ 1000000) : hlN x = x := by unfold hlN; rw [if_neg (by omega), if_neg (by omega)]
theorem tyS_c {t : Int32} {ts ts' : List Bool} (h : tyS t ts = some ts') : TC t ts ts' := by
  unfold tyS at h
  by_cases h0 : 0 ≤ t.toInt
  · rw [if_pos h0] at h
    by_cases h1 : t.toInt ≤ 1000000
    · rw [if_pos h1] at h
      exact Or.inl ⟨h0, h1, (Option.some.inj h).symm⟩
    · rw [if_neg h1] at h; cases h
  · rw [if_neg h0] at h
    by_cases g : t = -119 ∨ t = -115 ∨ t = -110 ∨ t = -121 ∨ t = -97 ∨ t = -99
    · have : ∃ i, ltr t = some i := by rcases g with g | g | g | g | g | g <;> subst g <;> exact ⟨_, rfl⟩
      obtain ⟨i, hi⟩ := this
      rw [hi] at h
      exact Or.inr (Or.inl ⟨by omega, (Option.some.inj h).symm, g⟩)
    · have hn : ltr t = none := by
        unfold ltr
        rw [if_neg (fun w => g (by simp [w])), if_neg (fun w => g (by simp [w])), if_neg (fun w => g (by simp [w])), if_neg (fun w => g (by simp [w])), if_neg (fun w => g (by simp [w])), if_neg (fun w => g (by simp [w]))]
      rw [hn] at h
      dsimp only at h
      by_cases c1 : t = -33
      · rw [if_pos c1] at h
        refine Or.inr (Or.inr (Or.inl ⟨c1, ?_⟩))
        split at h
        · rename_i r; exact ⟨r, rfl, (Option.some.inj h).symm⟩
        · cases h
      rw [if_neg c1] at h
      by_cases c2 : t = -43 ∨ t = -45 ∨ t = -42 ∨ t = -47
      · rw [if_pos c2] at h
        refine Or.inr (Or.inr (Or.inr (Or.inl ⟨c2, ?_⟩)))
        split at h
        · rename_i r; exact ⟨r, rfl, (Option.some.inj h).symm⟩
        · cases h
      rw [if_neg c2] at h
      by_cases c3 : t = -60 ∨ t = -61 ∨ t = -62
      · rw [if_pos c3] at h
        refine Or.inr (Or.inr (Or.inr (Or.inr (Or.inl ⟨c3, ?_⟩))))
        split at h
        · rename_i r; exact ⟨r, rfl, (Option.some.inj h).symm⟩
        · cases h
      rw [if_neg c3] at h
      by_cases c4 : t = -38 ∨ t = -124
      · rw [if_pos c4] at h
        refine Or.inr (Or.inr (Or.inr (Or.inr (Or.inr ⟨c4, ?_⟩))))
        split at h
        · rename_i r; exact ⟨r, rfl, (Option.some.inj h).symm⟩
        · cases h
      rw [if_neg c4] at h; cases h
theorem OKS_len : ∀ {ts : List Bool} {st : List Int}, OKS ts st → ts.length = st.length
  | [], [], _ => rfl
  | _ :: r, _ :: s, h => by rw [List.length_cons, List.length_cons, OKS_len (ts := r) (st := s) h.2.2]
  | [], _ :: _, h => h.elim
  | _ :: _, [], h => h.elim
theorem OKS_c {b : Bool} {ts : List Bool} {st : List Int} (h : OKS (b :: ts) st) : ∃ v s, st = v :: s ∧ (-1000000 ≤ v ∧ v ≤ 1000000) ∧ (b = true → v = 0 ∨ v = 1) ∧ OKS ts s := by
  cases st with
  | nil => exact h.elim
  | cons v s => exact ⟨v, s, rfl, h⟩
theorem opv_bd (t : Int32) (a b : Int) : -1000000 ≤ opv t a b ∧ opv t a b ≤ 1000000 := by
  unfold opv
  have := hlN_bd
  repeat' split
  all_goals first | exact this _ | omega
theorem opv_tr {t : Int32} (h : t = -60 ∨ t = -61 ∨ t = -62 ∨ t = -38 ∨ t = -124) (a b : Int) : opv t a b = 0 ∨ opv t a b = 1 := by
  rcases h with h | h | h | h | h <;> subst h
  · show (if a < b then (1 : Int) else 0) = 0 ∨ (if a < b then (1 : Int) else 0) = 1
    split <;> simp
  · show (if a = b then (1 : Int) else 0) = 0 ∨ (if a = b then (1 : Int) else 0) = 1
    split <;> simp
  · show (if b < a then (1 : Int) else 0) = 0 ∨ (if b < a then (1 : Int) else 0) = 1
    split <;> simp
  · show (if a = 0 ∨ b = 0 then (0 : Int) else 1) = 0 ∨ (if a = 0 ∨ b = 0 then (0 : Int) else 1) = 1
    split <;> simp
  · show (if a = 0 ∧ b = 0 then (0 : Int) else 1) = 0 ∨ (if a = 0 ∧ b = 0 then (0 : Int) else 1) = 1
    split <;> simp
theorem stp_num {e : Nat → Int} {t : Int32} {st : List Int} (h : 0 ≤ t.toInt) : stp e t st = t.toInt :: st := by unfold stp; rw [if_pos h]
theorem stp_ltr {e : Nat → Int} {t : Int32} {st : List Int} {i : Nat} (h : t.toInt < 0) (hi : ltr t = some i) : stp e t st = e i :: st := by unfold stp; rw [if_neg (by omega), hi]
theorem stp_not {e : Nat → Int} {a : Int} {r : List Int} : stp e (-33) (a :: r) = (1 - a) :: r := rfl
theorem op_of {t : Int32} (h : t = -43 ∨ t = -45 ∨ t = -42 ∨ t = -47 ∨ t = -60 ∨ t = -61 ∨ t = -62 ∨ t = -38 ∨ t = -124) : t.toInt < 0 ∧ ltr t = none ∧ t ≠ -33 := by
  rcases h with h | h | h | h | h | h | h | h | h <;> subst h <;> decide
theorem stp_op {e : Nat → Int} {t : Int32} {a b : Int} {r : List Int} (h : t = -43 ∨ t = -45 ∨ t = -42 ∨ t = -47 ∨ t = -60 ∨ t = -61 ∨ t = -62 ∨ t = -38 ∨ t = -124) : stp e t (b :: a :: r) = opv t a b :: r := by
  obtain ⟨h1, h2, h3⟩ := op_of h
  unfold stp
  rw [if_neg (by omega), h2]
  dsimp only
  rw [if_neg h3]
def EB (e : Nat → Int) : Prop := ∀ i, -1000000 ≤ e i ∧ e i ≤ 1000000
theorem OKS_stp {e : Nat → Int} (he : EB e) {t : Int32} {ts ts' : List Bool} {st : List Int} (h : TC t ts ts') (ho : OKS ts st) : OKS ts' (stp e t st) := by
  rcases h with ⟨h1, h2, rfl⟩ | ⟨h1, rfl, h3⟩ | ⟨rfl, r, rfl, rfl⟩ | ⟨h1, r, rfl, rfl⟩ | ⟨h1, r, rfl, rfl⟩ | ⟨h1, r, rfl, rfl⟩
  · rw [stp_num h1]; exact ⟨⟨by omega, h2⟩, (by intro w; cases w), ho⟩
  · have : ∃ i, ltr t = some i := by rcases h3 with g | g | g | g | g | g <;> subst g <;> exact ⟨_, rfl⟩
    obtain ⟨i, hi⟩ := this
    rw [stp_ltr h1 hi]; exact ⟨he i, (by intro w; cases w), ho⟩
  · obtain ⟨v, s, rfl, h1, h2, h3⟩ := OKS_c ho
    rw [stp_not]
    rcases h2 rfl with h | h <;> subst h
    · exact ⟨by decide, fun _ => Or.inr rfl, h3⟩
    · exact ⟨by decide, fun _ => Or.inl rfl, h3⟩
  · obtain ⟨b, s, rfl, _, _, h3⟩ := OKS_c ho
    obtain ⟨a, s, rfl, _, _, h3⟩ := OKS_c h3
    rw [stp_op (by rcases h1 with g | g | g | g <;> simp [g])]
    exact ⟨opv_bd t a b, (by intro w; cases w), h3⟩
  · obtain ⟨b, s, rfl, _, _, h3⟩ := OKS_c ho
    obtain ⟨a, s, rfl, _, _, h3⟩ := OKS_c h3
    rw [stp_op (by rcases h1 with g | g | g <;> simp [g])]
    exact ⟨opv_bd t a b, fun _ => opv_tr (by rcases h1 with g | g | g <;> simp [g]) a b, h3⟩
  · obtain ⟨b, s, rfl, _, _, h3⟩ := OKS_c ho
    obtain ⟨a, s, rfl, _, _, h3⟩ := OKS_c h3
    rw [stp_op (by rcases h1 with g | g <;> simp [g])]
    exact ⟨opv_bd t a b, fun _ => opv_tr (by rcases h1 with g | g <;> simp [g]) a b, h3⟩
theorem PS_cg {g g' : Nat → Int32} : ∀ {st : List Int}, (∀ i, i < st.length → g' i = g i) → PS g st → PS g' st
  | [], _, _ => trivial
  | v :: r, h, hp => ⟨by rw [h r.length (by simp)]; exact hp.1, PS_cg (st := r) (fun i hi => h i (by rw [List.length_cons]; omega)) hp.2⟩
