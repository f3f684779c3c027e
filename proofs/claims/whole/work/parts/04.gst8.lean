theorem mi_pI {K : List Value} {f : Int32 → List Value → Option mmR} {res : mmR} (h : mm_pI K f = some res) : ∃ x r, K = .int x :: r ∧ f x r = some res := by
  unfold mm_pI at h; split at h
  · exact ⟨_, _, rfl, h⟩
  · cases h
theorem mi_pII {K : List Value} {f : Int32 → Int32 → List Value → Option mmR} {res : mmR} (h : mm_pII K f = some res) : ∃ x y r, K = .int y :: .int x :: r ∧ f x y r = some res := by
  unfold mm_pII at h; split at h
  · exact ⟨_, _, _, rfl, h⟩
  · cases h
theorem mi_pJ {K : List Value} {f : Int64 → List Value → Option mmR} {res : mmR} (h : mm_pJ K f = some res) : ∃ x r, K = .long x :: r ∧ f x r = some res := by
  unfold mm_pJ at h; split at h
  · exact ⟨_, _, rfl, h⟩
  · cases h
theorem mi_pJJ {K : List Value} {f : Int64 → Int64 → List Value → Option mmR} {res : mmR} (h : mm_pJJ K f = some res) : ∃ x y r, K = .long y :: .long x :: r ∧ f x y r = some res := by
  unfold mm_pJJ at h; split at h
  · exact ⟨_, _, _, rfl, h⟩
  · cases h
theorem mi_pJI {K : List Value} {f : Int64 → Int32 → List Value → Option mmR} {res : mmR} (h : mm_pJI K f = some res) : ∃ x y r, K = .int y :: .long x :: r ∧ f x y r = some res := by
  unfold mm_pJI at h; split at h
  · exact ⟨_, _, _, rfl, h⟩
  · cases h
theorem mi_asR {v : Value} {f : Nat → Option mmR} {res : mmR} (h : mm_asR v f = some res) : ∃ a, v = .ref a ∧ f a = some res := by
  unfold mm_asR at h; split at h
  · exact ⟨_, rfl, h⟩
  · cases h
theorem mi_pR {K : List Value} {f : Nat → List Value → Option mmR} {res : mmR} (h : mm_pR K f = some res) : ∃ a r, K = .ref a :: r ∧ f a r = some res := by
  unfold mm_pR at h; split at h
  · obtain ⟨a, rfl, h⟩ := mi_asR h
    exact ⟨_, _, rfl, h⟩
  · cases h
theorem mi_pRI {K : List Value} {f : Nat → Int32 → List Value → Option mmR} {res : mmR} (h : mm_pRI K f = some res) : ∃ a i r, K = .int i :: .ref a :: r ∧ f a i r = some res := by
  unfold mm_pRI at h; split at h
  · obtain ⟨a, rfl, h⟩ := mi_asR h
    exact ⟨_, _, _, rfl, h⟩
  · cases h
theorem mi_pRII {K : List Value} {f : Nat → Int32 → Int32 → List Value → Option mmR} {res : mmR} (h : mm_pRII K f = some res) : ∃ a i x r, K = .int x :: .int i :: .ref a :: r ∧ f a i x r = some res := by
  unfold mm_pRII at h; split at h
  · obtain ⟨a, rfl, h⟩ := mi_asR h
    exact ⟨_, _, _, _, rfl, h⟩
  · cases h
theorem mi_pRIJ {K : List Value} {f : Nat → Int32 → Int64 → List Value → Option mmR} {res : mmR} (h : mm_pRIJ K f = some res) : ∃ a i x r, K = .long x :: .int i :: .ref a :: r ∧ f a i x r = some res := by
  unfold mm_pRIJ at h; split at h
  · obtain ⟨a, rfl, h⟩ := mi_asR h
    exact ⟨_, _, _, _, rfl, h⟩
  · cases h
theorem mi_pRIR {K : List Value} {f : Nat → Int32 → Nat → List Value → Option mmR} {res : mmR} (h : mm_pRIR K f = some res) : ∃ a i x r, K = .ref x :: .int i :: .ref a :: r ∧ f a i x r = some res := by
  unfold mm_pRIR at h; split at h
  · obtain ⟨a, rfl, h2⟩ := mi_asR h
    obtain ⟨x, rfl, h3⟩ := mi_asR h2
    exact ⟨_, _, _, _, rfl, h3⟩
  · cases h
theorem mi_pN {K : List Value} {f : Option Nat → List Value → Option mmR} {res : mmR} (h : mm_pN K f = some res) : (∃ a r, K = .ref a :: r ∧ f (some a) r = some res) ∨ ∃ r, K = .null :: r ∧ f none r = some res := by
  unfold mm_pN at h; split at h
  · unfold mm_asN at h; split at h
    · exact Or.inl ⟨_, _, rfl, h⟩
    · exact Or.inr ⟨_, rfl, h⟩
    · cases h
  · cases h
theorem mi_cond {b : Bool} {t : Option mmR} {res : mmR} (h : cond b t none = some res) : b = true ∧ t = some res := by
  cases b with
  | true => exact ⟨rfl, h⟩
  | false => cases h
theorem mi_p1 {K : List Value} {f : Value → List Value → Option mmR} {res : mmR} (h : mm_p1 K f = some res) : ∃ v r, K = v :: r ∧ mm_c1 v = true ∧ f v r = some res := by
  unfold mm_p1 at h; split at h
  · obtain ⟨h1, h2⟩ := mi_cond h
    exact ⟨_, _, rfl, h1, h2⟩
  · cases h
theorem mi_p11 {K : List Value} {f : Value → Value → List Value → Option mmR} {res : mmR} (h : mm_p11 K f = some res) : ∃ v w r, K = w :: v :: r ∧ mm_c1 v = true ∧ mm_c1 w = true ∧ f v w r = some res := by
  unfold mm_p11 at h; split at h
  · obtain ⟨h1, h2⟩ := mi_cond h
    rw [Bool.and_eq_true] at h1
    exact ⟨_, _, _, rfl, h1.2, h1.1, h2⟩
  · cases h
theorem mi_ld {L : mmL} {i : Nat} {f : Value → Option mmR} {res : mmR} (h : mm_ld L i f = some res) : ∃ v, L[i]? = some (some v) ∧ f v = some res := by
  unfold mm_ld at h; split at h
  · next v hv => exact ⟨v, hv, h⟩
  · cases h
theorem mi_isI {v : Value} {f : Option mmR} {res : mmR} (h : mm_isI v f = some res) : ∃ x, v = .int x ∧ f = some res := by
  unfold mm_isI at h; split at h
  · exact ⟨_, rfl, h⟩
  · cases h
theorem mi_isJ {v : Value} {f : Option mmR} {res : mmR} (h : mm_isJ v f = some res) : ∃ x, v = .long x ∧ f = some res := by
  unfold mm_isJ at h; split at h
  · exact ⟨_, rfl, h⟩
  · cases h
theorem mi_isA {v : Value} {f : Option mmR} {res : mmR} (h : mm_isA v f = some res) : ((∃ x, v = .ref x) ∨ v = .null) ∧ f = some res := by
  unfold mm_isA at h; split at h
  · exact ⟨Or.inl ⟨_, rfl⟩, h⟩
  · exact ⟨Or.inr rfl, h⟩
  · cases h
theorem mi_bind {α : Type} {x : Option α} {f : α → Option mmR} {res : mmR} (h : x.bind f = some res) : ∃ a, x = some a ∧ f a = some res := by
  cases x with
  | none => cases h
  | some a => exact ⟨a, rfl, h⟩
theorem mi_aV {q : Option mmR} {m : mmM} (h : mm_aV q = some m) : q = some (none, m) := by
  unfold mm_aV at h
  cases q with
  | none => cases h
  | some p =>
    obtain ⟨v, m2⟩ := p
    simp only [Option.bind_some] at h
    cases v with
    | none => cases h; rfl
    | some v => cases h
theorem mi_aI {q : Option mmR} {p : Int32 × mmM} (h : mm_aI q = some p) : q = some (some (.int p.1), p.2) := by
  unfold mm_aI at h
  cases q with
  | none => cases h
  | some r =>
    obtain ⟨v, m2⟩ := r
    simp only [Option.bind_some] at h
    split at h
    · cases h; rfl
    · cases h
theorem mi_aJ {q : Option mmR} {p : Int64 × mmM} (h : mm_aJ q = some p) : q = some (some (.long p.1), p.2) := by
  unfold mm_aJ at h
  cases q with
  | none => cases h
  | some r =>
    obtain ⟨v, m2⟩ := r
    simp only [Option.bind_some] at h
    split at h
    · cases h; rfl
    · cases h
theorem mi_aR {q : Option mmR} {p : Nat × mmM} (h : mm_aR q = some p) : q = some (some (.ref p.1), p.2) := by
  unfold mm_aR at h
  cases q with
  | none => cases h
  | some r =>
    obtain ⟨v, m2⟩ := r
    simp only [Option.bind_some] at h
    split at h
    · cases h; rfl
    · cases h
theorem mi_ans {c : Nat} {q : Option mmR} {L : mmL} {r : List Value} {k : mmK} {res : mmR} (h : mm_ans c q L r k = some res) : ∃ v m, q = some (v, m) ∧ k L (v.toList ++ r) m = some res := by
  unfold mm_ans at h
  split at h
  · obtain ⟨m, h1, h2⟩ := mi_bind h
    exact ⟨_, _, mi_aV h1, h2⟩
  · obtain ⟨p, h1, h2⟩ := mi_bind h
    exact ⟨_, _, mi_aI h1, h2⟩
  · obtain ⟨p, h1, h2⟩ := mi_bind h
    exact ⟨_, _, mi_aJ h1, h2⟩
  · obtain ⟨p, h1, h2⟩ := mi_bind h
    exact ⟨_, _, mi_aR h1, h2⟩
abbrev mmT : Type := MethodName × ByteArray × Nat × Option FieldType
noncomputable def mm_ww (y : mmT) : List Cond := Cond.code y.1 y.2.1 y.2.2.1 y.2.2.2 :: mm_gw
def mm_rm (d k z : Nat) : Room := { frames := d, cells := k, slots := z, locals := 60 * d + 200 }
def mm_host : String := "WhiskedDuchy"
/-- the words that an instruction needs of the tables -/
def mm_wds (mth : List mmT) (own : String) (i : Instr) (a b c : Nat) (v : Value) : List Cond := match i with
  | .ldc idx => match v with
    | .int x => [.constant own idx x]
    | _ => []
  | .ldc_w idx => match v with
    | .int x => [.constant own idx x]
    | _ => []
  | .ldc2_w idx => match v with
    | .long x => [.constantLong own idx x]
    | _ => []
  | .getfield idx => match mm_cl[a]?, (c / 4) % 4 with
    | some q, 0 => [.fieldLink own idx (q.2.1 b).1 (q.2.1 b).2.1 (q.2.1 b).2.2.1]
    | _, _ => []
  | .putfield idx => match mm_cl[a]?, (c / 4) % 4 with
    | some q, 0 => [.fieldLink own idx (q.2.1 b).1 (q.2.1 b).2.1 (q.2.1 b).2.2.1]
    | _, _ => []
  | .getstatic idx => match mm_stat[a]? with
    | some q => [.fieldLink own idx RX10 q.1 q.2]
    | none => []
  | .newarray at0 => [.arrayClass (newarray.typeOf at0)]
  | .anewarray idx => [.classLink own idx RX0]
  | .multianewarray idx _ => [.classLink own idx "[[I", .arrayClass .int]
  | .new idx => match mm_cl[a]? with
    | some q => [.classLink own idx q.1, .instantiable q.1 q.2.2, .initialized q.1]
    | none => []
  | .invokevirtual idx => match mth[a]?, (c / 4) % 4 with
    | some y, 0 => [.methodLink own idx y.1, .instanceMethod y.1, .selects y.1.cls y.1 y.1, .initialized y.1.cls]
    | some y, _ => [.initialized y.1.cls, .instanceMethod y.1, .selects y.1.cls y.1 y.1]
    | none, _ => []
  | .invokestatic idx => match mth[a]?, (c / 4) % 4 with
    | _, 2 => [.methodLink own idx arraycopyName, .native arraycopyName, .static arraycopyName, .initialized "java/lang/System"]
    | some y, 0 => [.methodLink own idx y.1, .static y.1, .initialized y.1.cls]
    | some y, _ => [.static y.1, .initialized y.1.cls]
    | none, _ => []
  | .invokespecial idx => match mth[a]?, (c / 4) % 4 with
    | _, 2 => [.methodLink own idx Lib.objectInit, .instanceMethod Lib.objectInit, .code Lib.objectInit ⟨#[0xb1]⟩ 1 none]
    | some y, 0 => [.methodLink own idx y.1, .instanceMethod y.1, .initialized y.1.cls]
    | some y, _ => [.instanceMethod y.1, .initialized y.1.cls]
    | none, _ => []
  | _ => []
/-- the words of the nest -/
def mm_nwd (mth : List mmT) (own : String) (i : Instr) (a b c : Nat) : List Cond := match i with
  | .getfield idx => match mm_cl[a]?, (c / 4) % 4 with
    | some q, 1 => [.fieldLinkNest own idx (q.2.1 b).1 (q.2.1 b).2.1 (q.2.1 b).2.2.1 mm_host]
    | _, _ => []
  | .putfield idx => match mm_cl[a]?, (c / 4) % 4 with
    | some q, 1 => [.fieldLinkNest own idx (q.2.1 b).1 (q.2.1 b).2.1 (q.2.1 b).2.2.1 mm_host]
    | _, _ => []
  | .invokevirtual idx => match mth[a]?, (c / 4) % 4 with
    | some y, 1 => [.methodLinkNest own idx y.1 mm_host]
    | _, _ => []
  | .invokestatic idx => match mth[a]?, (c / 4) % 4 with
    | some y, 1 => [.methodLinkNest own idx y.1 mm_host]
    | _, _ => []
  | .invokespecial idx => match mth[a]?, (c / 4) % 4 with
    | some y, 1 => [.methodLinkNest own idx y.1 mm_host]
    | _, _ => []
  | _ => []
def mm_plain (y : MethodName) (n : Nat) : Bool := decide (y.cls ≠ "java/lang/invoke/MethodHandle" ∧ y.cls ≠ "java/lang/invoke/VarHandle" ∧ (parseMethodDescriptor y.desc).map (fun d => d.parameters.length) = some n)
/-- an instruction's own numbers are right -/
def mm_okI (mth : List mmT) (own nm : String) (rt : Option FieldType) (nL pc : Nat) (i : Instr) (len a b c : Nat) (v : Value) (w : List (Int32 × Nat)) : Bool := match i with
  | .iconst z => decide (len = 1 ∧ v = .int (Int32.ofInt z))
  | .bipush z => decide (len = 2 ∧ v = .int (Int8.ofInt z).toInt32)
  | .sipush z => decide (len = 3 ∧ v = .int (Int16.ofInt z).toInt32)
  | .lconst z => decide (len = 1 ∧ v = .long (Int64.ofNat (z : Nat)))
  | .ldc _ => decide (len = 2) && match v with
    | .int _ => true
    | _ => false
  | .ldc_w _ => decide (len = 3) && match v with
    | .int _ => true
    | _ => false
  | .ldc2_w _ => decide (len = 3) && match v with
    | .long _ => true
    | _ => false
  | .iload_n k => decide (len = 1 ∧ (k : Nat) = a)
  | .iload k => decide (len = 2 ∧ k = a)
  | .lload_n k => decide (len = 1 ∧ (k : Nat) = a)
  | .lload k => decide (len = 2 ∧ k = a)
  | .aload_n k => decide (len = 1 ∧ (k : Nat) = a)
  | .aload k => decide (len = 2 ∧ k = a)
  | .istore_n k => decide (len = 1 ∧ (k : Nat) = a ∧ a < nL)
  | .istore k => decide (len = 2 ∧ k = a ∧ a < nL)
  | .lstore_n k => decide (len = 1 ∧ (k : Nat) = a ∧ a + 1 < nL)
  | .lstore k => decide (len = 2 ∧ k = a ∧ a + 1 < nL)
  | .astore_n k => decide (len = 1 ∧ (k : Nat) = a ∧ a < nL)
  | .astore k => decide (len = 2 ∧ k = a ∧ a < nL)
  | .iinc k z => decide (len = 3 ∧ k = a ∧ v = .int (Int32.ofInt z) ∧ a < nL)
  | .goto o => decide (len = 3 ∧ (pc : Int) + o = (a : Int))
  | .ifCond _ o => decide (len = 3 ∧ (pc : Int) + o = (a : Int))
  | .if_icmp _ o => decide (len = 3 ∧ (pc : Int) + o = (a : Int))
  | .ifnull o => decide (len = 3 ∧ (pc : Int) + o = (a : Int))
  | .ifnonnull o => decide (len = 3 ∧ (pc : Int) + o = (a : Int))
  | .tableswitch d lo hi offs => decide ((pc : Int) + d = (a : Int) ∧ hi + 1 = lo + offs.size) && mm_tsw pc lo offs.toList w
  | .lookupswitch d ps => decide ((pc : Int) + d = (a : Int) ∧ w.map (fun q => (q.1.toInt, (q.2 : Int) - pc)) = ps.toList) && (ps.toList.zip (ps.toList.drop 1)).all (fun (a, next) => a.1 < next.1)
  | .ireturn => decide (len = 1) && match b with
    | 0 => decide (rt = some .int)
    | _ => decide (rt = some .boolean)
  | .lreturn => decide (len = 1 ∧ rt = some .long)
  | .areturn => decide (len = 1) && match rt with
    | some (.object _) => true
    | some (.array _) => true
    | _ => false
  | .return_ => decide (len = 1 ∧ rt = none)
  | .getfield _ => match mm_cl[a]? with
    | some q => decide (len = 3 ∧ b < q.2.2 ∧ mm_tk (mm_tyOf a b) = c % 4 ∧ (c / 4) % 4 < 2)
    | none => false
  | .putfield _ => match mm_cl[a]? with
    | some q => decide (len = 3 ∧ b < q.2.2 ∧ mm_tk (mm_tyOf a b) = c % 4 ∧ (c / 4) % 4 < 2) && (decide ((q.2.1 b).2.2.2 = false) || decide (nm = "<init>" ∧ (q.2.1 b).1 = own ∧ (c / 4) % 4 = 0))
    | none => false
  | .getstatic _ => decide (len = 3 ∧ a < 9)
  | .newarray at0 => decide (len = 2 ∧ ((at0 = .int ∧ a = 0) ∨ (at0 = .boolean ∧ a = 1) ∨ (at0 = .long ∧ a = 3)))
  | .anewarray _ => decide (len = 3)
  | .multianewarray _ k9 => decide (len = 4 ∧ k9 = 2)
  | .new _ => decide (len = 3 ∧ a < 13)
  | .aaload => decide (len = 1 ∧ a < 2)
  | .aastore => decide (len = 1 ∧ a < 2)
  | .invokevirtual _ => match mth[a]?, mm_cl[c / 16]? with
    | some y, some q => decide (len = 3 ∧ y.1.cls = q.1 ∧ (c / 4) % 4 < 2) && mm_plain y.1 b
    | _, _ => false
  | .invokestatic _ => match mth[a]?, (c / 4) % 4 with
    | _, 2 => decide (len = 3)
    | some y, 0 => decide (len = 3) && mm_plain y.1 b
    | some y, 1 => decide (len = 3) && mm_plain y.1 b
    | _, _ => false
  | .invokespecial _ => match mth[a]?, (c / 4) % 4 with
    | _, 2 => decide (len = 3)
    | some y, 0 => decide (len = 3 ∧ y.1.name = "<init>" ∧ y.2.2.2 = none) && mm_plain y.1 b
    | some y, 1 => decide (len = 3 ∧ y.1.name = "<init>" ∧ y.2.2.2 = none) && mm_plain y.1 b
    | _, _ => false
  | _ => decide (len = 1)
/-- what is known of a call that came back -/
def mm_Call (l : Launch) (D : va_G) (cA : Nat → ClassId) (Y : mmY) (nest : List Cond) (mth : List mmT) (d j : Nat) (as : List Value) (M : mmM) (v : Option Value) (M' : mmM) : Prop :=
  (mm_wf Y M' ∧ M.2.1 ≤ M'.2.1 ∧ M.2.2.1 ≤ M'.2.2.1 ∧ ∀ x, v = some x → mm_okv M'.2.1 x) ∧ ∀ y, mth[j]? = some y → ∀ (ρ : Nat → Nat) (sz : Nat), Met l y.1 (mm_ww y) (mm_rm d (M'.2.1 - M.2.1) (M'.2.2.1 - M.2.2.1)) (va_Pc (as.map (mm_tr ρ)) (mm_Wd D cA Y nest ρ M sz)) (mm_Qc D cA Y ρ M v M' sz) (M'.2.1 - M.2.1) (M'.2.2.1 - M.2.2.1) (va_A (mm_enc cA ρ Y M) sz)
theorem mm_gw_good {w : Cond} (h : w ∈ mm_gw) : goodWord w = true := (List.mem_filter.mp h).2
theorem mm_gw_in {Ts ws : List Cond} (hTs : ∀ w ∈ mm_gw, w ∈ Ts) (h : ∀ w ∈ ws, w ∈ mm_gw) : GoodIn Ts ws := fun w hw => ⟨hTs w (h w hw), good_of_word (mm_gw_good (h w hw))⟩
theorem mm_ww_in {y : mmT} (h : Cond.code y.1 y.2.1 y.2.2.1 y.2.2.2 ∈ mm_gw) : ∀ w ∈ mm_ww y, w ∈ mm_gw := fun w hw => by
  rcases List.mem_cons.mp hw with rfl | hw
  · exact h
  · exact hw

