/-- constants: the tables, the statics that hold them, the nest's words, the arrays' words -/
def mm_fty (ty : Nat) : FieldType := match ty with
  | 0 => .int
  | 1 => .boolean
  | 2 => .char
  | 3 => .long
  | 4 => .object RX0
  | _ => .array .int
def mm_stat : List (String × String) := [("ITEMS", "[I"), ("MOST_CLAUSES", "[I"), ("FIRST_ITEM", "[I"), ("LEAST", "[I"), ("MOST", "[I"), ("WITHOUT", "[I"), ("FIRST_VALUE", "[I"), ("CLAUSE_SIGNS", "[C"), ("SIGNS", "[C")]
def mm_tysA (cA : Nat → ClassId) : List (ClassId × FieldType) := [(cA 0, .int), (cA 1, .boolean), (cA 0, .int), (cA 3, .long), (cA 4, .object RX0), (cA 5, .array .int)]
def mm_cnT (Y : mmY) (ρ : Nat → Nat) (A : Nat → Prop) (U : State) (H : Heap) : Prop := ∀ (t ty len : Nat), t < 16 → Y.2.1 t = .inr (ty, len) → va_T (mm_fty ty) (ρ t) len (fun j => .int (Y.2.2.2 t j)) A U H
def mm_cnZ (ρ : Nat → Nat) (A : Nat → Prop) (U : State) (H : Heap) : Prop := ∀ (t : Nat) (q : String × String), mm_stat[t]? = some q → va_Z RX10 q.1 q.2 (.ref (ρ t)) A U H
def mm_cnN (nest : List Cond) (U : State) : Prop := ∀ w ∈ nest, va_Nw w U
def mm_wfY (Y : mmY) : Prop := 16 ≤ Y.1 ∧ ∀ (t ci : Nat), t < 16 → Y.2.1 t = .inl ci → mm_cl[ci]? = none
def mm_wf (Y : mmY) (M : mmM) : Prop := Y.1 ≤ M.2.1 ∧ ∀ (a k b : Nat), 16 ≤ a → a < M.2.1 → mm_p Y M a k = some b → b < M.2.1
def mm_lk (n : Nat) (L : mmL) : Prop := ∀ (i : Nat) (v : Value), L[i]? = some (some v) → mm_okv n v
/-- from here on it comes to the end that Mf and Q tell -/
def mm_Gd (p : Program) (l : Launch) (e : Env) (R : Room) (s : State) (m : MethodId) (args : Array Value) (below : List Frame) (meth : Method) (c : Code) (Q : State → Prop) (D : va_G) (cA : Nat → ClassId) (Y : mmY) (A : Nat → Prop) (nL n0 z0 oc : Nat) (ρ0 : Nat → Nat) (Mf : mmM) (pc : Nat) (L : mmL) (K : List Value) (M : mmM) : Prop :=
  mm_wf Y M → n0 ≤ M.2.1 → z0 ≤ M.2.2.1 → mm_ks M.2.1 K → mm_lk M.2.1 L →
  (mm_wf Y Mf ∧ M.2.1 ≤ Mf.2.1 ∧ M.2.2.1 ≤ Mf.2.2.1) ∧ ∀ (ρ : Nat → Nat) (H : Heap) (locs : List Loc) (ls : Array Slot), (∀ b, b < n0 → ρ b = ρ0 b) → va_P D mm_cl (mm_enc cA ρ Y M) H → va_D A (mm_enc cA ρ Y M) → va_S A s.heap H locs → mm_lc ρ M.2.1 L ls nL →
    W p l e R s m args below meth c H locs (M.2.1 + oc - n0) (M.2.2.1 - z0) Q (F0 m pc ls (K.map (mm_tr ρ)))
theorem mm_ks_cons {n : Nat} {v : Value} {K : List Value} (h : mm_okv n v) (hk : mm_ks n K) : mm_ks n (v :: K) := fun w hw => by
  rcases List.mem_cons.mp hw with rfl | h2
  · exact h
  · exact hk w h2
theorem mm_ks_tail {n : Nat} {v : Value} {K : List Value} (hk : mm_ks n (v :: K)) : mm_ks n K := fun w hw => hk w (List.mem_cons_of_mem _ hw)
theorem mm_ks_head {n : Nat} {v : Value} {K : List Value} (hk : mm_ks n (v :: K)) : mm_okv n v := hk v List.mem_cons_self
theorem mm_st1_lk {n : Nat} {L : mmL} {i : Nat} {v : Value} (h : mm_lk n L) (hv : mm_okv n v) : mm_lk n (mm_st1 L i v) := by
  intro j w hw
  unfold mm_st1 at hw
  rw [List.getElem?_set] at hw
  by_cases e : i = j
  · rw [if_pos e] at hw
    split at hw
    · cases hw; exact hv
    · cases hw
  · rw [if_neg e] at hw
    exact h j w (mm_clr_at hw).1
theorem mm_st2_lk {n : Nat} {L : mmL} {i : Nat} {v : Value} (h : mm_lk n L) (hv : mm_okv n v) : mm_lk n (mm_st2 L i v) := by
  intro j w hw
  unfold mm_st2 at hw
  rw [List.getElem?_set] at hw
  by_cases e2 : i + 1 = j
  · rw [if_pos e2] at hw
    split at hw <;> cases hw
  · rw [if_neg e2, List.getElem?_set] at hw
    by_cases e : i = j
    · rw [if_pos e] at hw
      split at hw
      · cases hw; exact hv
      · cases hw
    · rw [if_neg e] at hw
      exact h j w (mm_clr_at hw).1
theorem mm_msk_lk {n : Nat} {L : mmL} (k : List Bool) (h : mm_lk n L) : mm_lk n (mm_msk k L) := fun i v hv => h i v (mm_msk_at k L i v hv)
section GS
variable {p : Program} {l : Launch} {e : Env} {R : Room} {s : State} {m : MethodId} {args : Array Value} {below : List Frame} {meth : Method} {c : Code} {Q : State → Prop} {D : va_G} {cA : Nat → ClassId} {Y : mmY} {A : Nat → Prop} {nL n0 z0 oc : Nat} {ρ0 : Nat → Nat} {Mf : mmM} {cc : ByteArray} {pc : Nat} {L : mmL} {K r : List Value} {M : mmM}

theorem gs_iconst (hx : p.tables.exec = Jvm.exec) (hb : c.code = cc) {z : Int} {x : Int32} (hv : Int32.ofInt z = x) (hd : decode cc pc = .ok (.iconst z, 1)) (hk : mm_Gd p l e R s m args below meth c Q D cA Y A nL n0 z0 oc ρ0 Mf (pc + 1) L (.int x :: K) M) : mm_Gd p l e R s m args below meth c Q D cA Y A nL n0 z0 oc ρ0 Mf pc L K M := by
  intro hw0 hn0 hz0 hk0 hl0
  obtain ⟨h1, h2⟩ := hk hw0 hn0 hz0 (mm_ks_cons trivial hk0) hl0
  refine ⟨h1, fun ρ H locs ls hr hP hD hS hl => ?_⟩
  exact lv_iconst hx hb hd hv (h2 ρ H locs ls hr hP hD hS hl)
theorem gs_bipush (hx : p.tables.exec = Jvm.exec) (hb : c.code = cc) {z : Int} {x : Int32} (hv : (Int8.ofInt z).toInt32 = x) (hd : decode cc pc = .ok (.bipush z, 2)) (hk : mm_Gd p l e R s m args below meth c Q D cA Y A nL n0 z0 oc ρ0 Mf (pc + 2) L (.int x :: K) M) : mm_Gd p l e R s m args below meth c Q D cA Y A nL n0 z0 oc ρ0 Mf pc L K M := by
  intro hw0 hn0 hz0 hk0 hl0
  obtain ⟨h1, h2⟩ := hk hw0 hn0 hz0 (mm_ks_cons trivial hk0) hl0
  refine ⟨h1, fun ρ H locs ls hr hP hD hS hl => ?_⟩
  exact lv_bipush hx hb hd hv (h2 ρ H locs ls hr hP hD hS hl)
theorem gs_sipush (hx : p.tables.exec = Jvm.exec) (hb : c.code = cc) {z : Int} {x : Int32} (hv : (Int16.ofInt z).toInt32 = x) (hd : decode cc pc = .ok (.sipush z, 3)) (hk : mm_Gd p l e R s m args below meth c Q D cA Y A nL n0 z0 oc ρ0 Mf (pc + 3) L (.int x :: K) M) : mm_Gd p l e R s m args below meth c Q D cA Y A nL n0 z0 oc ρ0 Mf pc L K M := by
  intro hw0 hn0 hz0 hk0 hl0
  obtain ⟨h1, h2⟩ := hk hw0 hn0 hz0 (mm_ks_cons trivial hk0) hl0
  refine ⟨h1, fun ρ H locs ls hr hP hD hS hl => ?_⟩
  exact lv_sipush hx hb hd hv (h2 ρ H locs ls hr hP hD hS hl)
theorem gs_lconst (hx : p.tables.exec = Jvm.exec) (hb : c.code = cc) {z : Fin 2} {x : Int64} (hv : Int64.ofNat (z : Nat) = x) (hd : decode cc pc = .ok (.lconst z, 1)) (hk : mm_Gd p l e R s m args below meth c Q D cA Y A nL n0 z0 oc ρ0 Mf (pc + 1) L (.long x :: K) M) : mm_Gd p l e R s m args below meth c Q D cA Y A nL n0 z0 oc ρ0 Mf pc L K M := by
  intro hw0 hn0 hz0 hk0 hl0
  obtain ⟨h1, h2⟩ := hk hw0 hn0 hz0 (mm_ks_cons trivial hk0) hl0
  refine ⟨h1, fun ρ H locs ls hr hP hD hS hl => ?_⟩
  exact lv_lconst hx hb hd hv (h2 ρ H locs ls hr hP hD hS hl)
theorem gs_ldc (hx : p.tables.exec = Jvm.exec) (hb : c.code = cc) {own : String} {index : Nat} (hown : s.vm.findClass own = some m.cls) {x : Int32} (hc : (Jvm.Cond.constant own index x).before args s = true) (hd : decode cc pc = .ok (.ldc index, 2)) (hk : mm_Gd p l e R s m args below meth c Q D cA Y A nL n0 z0 oc ρ0 Mf (pc + 2) L (.int x :: K) M) : mm_Gd p l e R s m args below meth c Q D cA Y A nL n0 z0 oc ρ0 Mf pc L K M := by
  intro hw0 hn0 hz0 hk0 hl0
  obtain ⟨h1, h2⟩ := hk hw0 hn0 hz0 (mm_ks_cons trivial hk0) hl0
  refine ⟨h1, fun ρ H locs ls hr hP hD hS hl => ?_⟩
  exact lv_ldc hx hb hown hc hd (h2 ρ H locs ls hr hP hD hS hl)
theorem gs_ldcw (hx : p.tables.exec = Jvm.exec) (hb : c.code = cc) {own : String} {index : Nat} (hown : s.vm.findClass own = some m.cls) {x : Int32} (hc : (Jvm.Cond.constant own index x).before args s = true) (hd : decode cc pc = .ok (.ldc_w index, 3)) (hk : mm_Gd p l e R s m args below meth c Q D cA Y A nL n0 z0 oc ρ0 Mf (pc + 3) L (.int x :: K) M) : mm_Gd p l e R s m args below meth c Q D cA Y A nL n0 z0 oc ρ0 Mf pc L K M := by
  intro hw0 hn0 hz0 hk0 hl0
  obtain ⟨h1, h2⟩ := hk hw0 hn0 hz0 (mm_ks_cons trivial hk0) hl0
  refine ⟨h1, fun ρ H locs ls hr hP hD hS hl => ?_⟩
  exact lv_ldcw hx hb hown hc hd (h2 ρ H locs ls hr hP hD hS hl)
theorem gs_ldc2 (hx : p.tables.exec = Jvm.exec) (hb : c.code = cc) {own : String} {index : Nat} (hown : s.vm.findClass own = some m.cls) {x : Int64} (hc : (Jvm.Cond.constantLong own index x).before args s = true) (hd : decode cc pc = .ok (.ldc2_w index, 3)) (hk : mm_Gd p l e R s m args below meth c Q D cA Y A nL n0 z0 oc ρ0 Mf (pc + 3) L (.long x :: K) M) : mm_Gd p l e R s m args below meth c Q D cA Y A nL n0 z0 oc ρ0 Mf pc L K M := by
  intro hw0 hn0 hz0 hk0 hl0
  obtain ⟨h1, h2⟩ := hk hw0 hn0 hz0 (mm_ks_cons trivial hk0) hl0
  refine ⟨h1, fun ρ H locs ls hr hP hD hS hl => ?_⟩
  exact lv_ldc2 hx hb hown hc hd (h2 ρ H locs ls hr hP hD hS hl)
theorem gs_iload_n (hx : p.tables.exec = Jvm.exec) (hb : c.code = cc) {k : Fin 4} {i : Nat} {x : Int32} (hi : (k : Nat) = i) (hv : L[i]? = some (some (.int x))) (hd : decode cc pc = .ok (.iload_n k, 1)) (hk : mm_Gd p l e R s m args below meth c Q D cA Y A nL n0 z0 oc ρ0 Mf (pc + 1) L (.int x :: K) M) : mm_Gd p l e R s m args below meth c Q D cA Y A nL n0 z0 oc ρ0 Mf pc L K M := by
  intro hw0 hn0 hz0 hk0 hl0
  obtain ⟨h1, h2⟩ := hk hw0 hn0 hz0 (mm_ks_cons trivial hk0) hl0
  refine ⟨h1, fun ρ H locs ls hr hP hD hS hl => ?_⟩
  exact lv_iload_n hx hb hd hi (hl.2.2.2 i _ hv).1 (h2 ρ H locs ls hr hP hD hS hl)
theorem gs_iload (hx : p.tables.exec = Jvm.exec) (hb : c.code = cc) {i : Nat} {x : Int32} (hv : L[i]? = some (some (.int x))) (hd : decode cc pc = .ok (.iload i, 2)) (hk : mm_Gd p l e R s m args below meth c Q D cA Y A nL n0 z0 oc ρ0 Mf (pc + 2) L (.int x :: K) M) : mm_Gd p l e R s m args below meth c Q D cA Y A nL n0 z0 oc ρ0 Mf pc L K M := by
  intro hw0 hn0 hz0 hk0 hl0
  obtain ⟨h1, h2⟩ := hk hw0 hn0 hz0 (mm_ks_cons trivial hk0) hl0
  refine ⟨h1, fun ρ H locs ls hr hP hD hS hl => ?_⟩
  exact lv_iload hx hb hd (hl.2.2.2 i _ hv).1 (h2 ρ H locs ls hr hP hD hS hl)
theorem gs_lload_n (hx : p.tables.exec = Jvm.exec) (hb : c.code = cc) {k : Fin 4} {i : Nat} {x : Int64} (hi : (k : Nat) = i) (hv : L[i]? = some (some (.long x))) (hd : decode cc pc = .ok (.lload_n k, 1)) (hk : mm_Gd p l e R s m args below meth c Q D cA Y A nL n0 z0 oc ρ0 Mf (pc + 1) L (.long x :: K) M) : mm_Gd p l e R s m args below meth c Q D cA Y A nL n0 z0 oc ρ0 Mf pc L K M := by
  intro hw0 hn0 hz0 hk0 hl0
  obtain ⟨h1, h2⟩ := hk hw0 hn0 hz0 (mm_ks_cons trivial hk0) hl0
  refine ⟨h1, fun ρ H locs ls hr hP hD hS hl => ?_⟩
  exact lv_lload_n hx hb hd hi (hl.2.2.2 i _ hv).1 (h2 ρ H locs ls hr hP hD hS hl)
theorem gs_lload (hx : p.tables.exec = Jvm.exec) (hb : c.code = cc) {i : Nat} {x : Int64} (hv : L[i]? = some (some (.long x))) (hd : decode cc pc = .ok (.lload i, 2)) (hk : mm_Gd p l e R s m args below meth c Q D cA Y A nL n0 z0 oc ρ0 Mf (pc + 2) L (.long x :: K) M) : mm_Gd p l e R s m args below meth c Q D cA Y A nL n0 z0 oc ρ0 Mf pc L K M := by
  intro hw0 hn0 hz0 hk0 hl0
  obtain ⟨h1, h2⟩ := hk hw0 hn0 hz0 (mm_ks_cons trivial hk0) hl0
  refine ⟨h1, fun ρ H locs ls hr hP hD hS hl => ?_⟩
  exact lv_lload hx hb hd (hl.2.2.2 i _ hv).1 (h2 ρ H locs ls hr hP hD hS hl)
theorem gs_aload_n (hx : p.tables.exec = Jvm.exec) (hb : c.code = cc) {k : Fin 4} {i : Nat} {x : Nat} (hi : (k : Nat) = i) (hv : L[i]? = some (some (.ref x))) (hd : decode cc pc = .ok (.aload_n k, 1)) (hk : mm_Gd p l e R s m args below meth c Q D cA Y A nL n0 z0 oc ρ0 Mf (pc + 1) L (.ref x :: K) M) : mm_Gd p l e R s m args below meth c Q D cA Y A nL n0 z0 oc ρ0 Mf pc L K M := by
  intro hw0 hn0 hz0 hk0 hl0
  obtain ⟨h1, h2⟩ := hk hw0 hn0 hz0 (mm_ks_cons (hl0 i _ hv) hk0) hl0
  refine ⟨h1, fun ρ H locs ls hr hP hD hS hl => ?_⟩
  exact lv_aload_n hx hb hd hi (hl.2.2.2 i _ hv).1 (h2 ρ H locs ls hr hP hD hS hl)
theorem gs_aload (hx : p.tables.exec = Jvm.exec) (hb : c.code = cc) {i : Nat} {x : Nat} (hv : L[i]? = some (some (.ref x))) (hd : decode cc pc = .ok (.aload i, 2)) (hk : mm_Gd p l e R s m args below meth c Q D cA Y A nL n0 z0 oc ρ0 Mf (pc + 2) L (.ref x :: K) M) : mm_Gd p l e R s m args below meth c Q D cA Y A nL n0 z0 oc ρ0 Mf pc L K M := by
  intro hw0 hn0 hz0 hk0 hl0
  obtain ⟨h1, h2⟩ := hk hw0 hn0 hz0 (mm_ks_cons (hl0 i _ hv) hk0) hl0
  refine ⟨h1, fun ρ H locs ls hr hP hD hS hl => ?_⟩
  exact lv_aload hx hb hd (hl.2.2.2 i _ hv).1 (h2 ρ H locs ls hr hP hD hS hl)
theorem gs_aload_nN (hx : p.tables.exec = Jvm.exec) (hb : c.code = cc) {k : Fin 4} {i : Nat} (hi : (k : Nat) = i) (hv : L[i]? = some (some .null)) (hd : decode cc pc = .ok (.aload_n k, 1)) (hk : mm_Gd p l e R s m args below meth c Q D cA Y A nL n0 z0 oc ρ0 Mf (pc + 1) L (.null :: K) M) : mm_Gd p l e R s m args below meth c Q D cA Y A nL n0 z0 oc ρ0 Mf pc L K M := by
  intro hw0 hn0 hz0 hk0 hl0
  obtain ⟨h1, h2⟩ := hk hw0 hn0 hz0 (mm_ks_cons trivial hk0) hl0
  refine ⟨h1, fun ρ H locs ls hr hP hD hS hl => ?_⟩
  exact lv_aload_nN hx hb hd hi (hl.2.2.2 i _ hv).1 (h2 ρ H locs ls hr hP hD hS hl)
theorem gs_aloadN (hx : p.tables.exec = Jvm.exec) (hb : c.code = cc) {i : Nat} (hv : L[i]? = some (some .null)) (hd : decode cc pc = .ok (.aload i, 2)) (hk : mm_Gd p l e R s m args below meth c Q D cA Y A nL n0 z0 oc ρ0 Mf (pc + 2) L (.null :: K) M) : mm_Gd p l e R s m args below meth c Q D cA Y A nL n0 z0 oc ρ0 Mf pc L K M := by
  intro hw0 hn0 hz0 hk0 hl0
  obtain ⟨h1, h2⟩ := hk hw0 hn0 hz0 (mm_ks_cons trivial hk0) hl0
  refine ⟨h1, fun ρ H locs ls hr hP hD hS hl => ?_⟩
  exact lv_aloadN hx hb hd (hl.2.2.2 i _ hv).1 (h2 ρ H locs ls hr hP hD hS hl)
theorem gs_istore_n (hx : p.tables.exec = Jvm.exec) (hb : c.code = cc) {k : Fin 4} {i : Nat} {x : Int32} (hi : (k : Nat) = i) (hn : i < nL) (hd : decode cc pc = .ok (.istore_n k, 1)) (hk : mm_Gd p l e R s m args below meth c Q D cA Y A nL n0 z0 oc ρ0 Mf (pc + 1) (mm_st1 L i (.int x)) r M) : mm_Gd p l e R s m args below meth c Q D cA Y A nL n0 z0 oc ρ0 Mf pc L (.int x :: r) M := by
  intro hw0 hn0 hz0 hk0 hl0
  obtain ⟨h1, h2⟩ := hk hw0 hn0 hz0 (mm_ks_tail hk0) (mm_st1_lk hl0 trivial)
  refine ⟨h1, fun ρ H locs ls hr hP hD hS hl => ?_⟩
  exact lv_istore_n hx hb hd hi (mm_lc_has hl) hn rfl (fun ls hl1 => h2 ρ H locs ls hr hP hD hS (mm_st1_ok hl trivial hl1))
theorem gs_istore (hx : p.tables.exec = Jvm.exec) (hb : c.code = cc) {i : Nat} {x : Int32} (hn : i < nL) (hd : decode cc pc = .ok (.istore i, 2)) (hk : mm_Gd p l e R s m args below meth c Q D cA Y A nL n0 z0 oc ρ0 Mf (pc + 2) (mm_st1 L i (.int x)) r M) : mm_Gd p l e R s m args below meth c Q D cA Y A nL n0 z0 oc ρ0 Mf pc L (.int x :: r) M := by
  intro hw0 hn0 hz0 hk0 hl0
  obtain ⟨h1, h2⟩ := hk hw0 hn0 hz0 (mm_ks_tail hk0) (mm_st1_lk hl0 trivial)
  refine ⟨h1, fun ρ H locs ls hr hP hD hS hl => ?_⟩
  exact lv_istore hx hb hd (mm_lc_has hl) hn rfl (fun ls hl1 => h2 ρ H locs ls hr hP hD hS (mm_st1_ok hl trivial hl1))
theorem gs_lstore_n (hx : p.tables.exec = Jvm.exec) (hb : c.code = cc) {k : Fin 4} {i : Nat} {x : Int64} (hi : (k : Nat) = i) (hn : i + 1 < nL) (hd : decode cc pc = .ok (.lstore_n k, 1)) (hk : mm_Gd p l e R s m args below meth c Q D cA Y A nL n0 z0 oc ρ0 Mf (pc + 1) (mm_st2 L i (.long x)) r M) : mm_Gd p l e R s m args below meth c Q D cA Y A nL n0 z0 oc ρ0 Mf pc L (.long x :: r) M := by
  intro hw0 hn0 hz0 hk0 hl0
  obtain ⟨h1, h2⟩ := hk hw0 hn0 hz0 (mm_ks_tail hk0) (mm_st2_lk hl0 trivial)
  refine ⟨h1, fun ρ H locs ls hr hP hD hS hl => ?_⟩
  exact lv_lstore_n hx hb hd hi (mm_lc_has hl) hn rfl (fun ls hl1 => h2 ρ H locs ls hr hP hD hS (mm_st2_ok hl trivial hl1))
theorem gs_lstore (hx : p.tables.exec = Jvm.exec) (hb : c.code = cc) {i : Nat} {x : Int64} (hn : i + 1 < nL) (hd : decode cc pc = .ok (.lstore i, 2)) (hk : mm_Gd p l e R s m args below meth c Q D cA Y A nL n0 z0 oc ρ0 Mf (pc + 2) (mm_st2 L i (.long x)) r M) : mm_Gd p l e R s m args below meth c Q D cA Y A nL n0 z0 oc ρ0 Mf pc L (.long x :: r) M := by
  intro hw0 hn0 hz0 hk0 hl0
  obtain ⟨h1, h2⟩ := hk hw0 hn0 hz0 (mm_ks_tail hk0) (mm_st2_lk hl0 trivial)
  refine ⟨h1, fun ρ H locs ls hr hP hD hS hl => ?_⟩
  exact lv_lstore hx hb hd (mm_lc_has hl) hn rfl (fun ls hl1 => h2 ρ H locs ls hr hP hD hS (mm_st2_ok hl trivial hl1))
theorem gs_astore_n (hx : p.tables.exec = Jvm.exec) (hb : c.code = cc) {k : Fin 4} {i : Nat} {x : Nat} (hi : (k : Nat) = i) (hn : i < nL) (hd : decode cc pc = .ok (.astore_n k, 1)) (hk : mm_Gd p l e R s m args below meth c Q D cA Y A nL n0 z0 oc ρ0 Mf (pc + 1) (mm_st1 L i (.ref x)) r M) : mm_Gd p l e R s m args below meth c Q D cA Y A nL n0 z0 oc ρ0 Mf pc L (.ref x :: r) M := by
  intro hw0 hn0 hz0 hk0 hl0
  obtain ⟨h1, h2⟩ := hk hw0 hn0 hz0 (mm_ks_tail hk0) (mm_st1_lk hl0 (mm_ks_head hk0))
  refine ⟨h1, fun ρ H locs ls hr hP hD hS hl => ?_⟩
  exact lv_astore_n hx hb hd hi (mm_lc_has hl) hn rfl (fun ls hl1 => h2 ρ H locs ls hr hP hD hS (mm_st1_ok hl (v := .ref x) (mm_ks_head hk0) hl1))
theorem gs_astore (hx : p.tables.exec = Jvm.exec) (hb : c.code = cc) {i : Nat} {x : Nat} (hn : i < nL) (hd : decode cc pc = .ok (.astore i, 2)) (hk : mm_Gd p l e R s m args below meth c Q D cA Y A nL n0 z0 oc ρ0 Mf (pc + 2) (mm_st1 L i (.ref x)) r M) : mm_Gd p l e R s m args below meth c Q D cA Y A nL n0 z0 oc ρ0 Mf pc L (.ref x :: r) M := by
  intro hw0 hn0 hz0 hk0 hl0
  obtain ⟨h1, h2⟩ := hk hw0 hn0 hz0 (mm_ks_tail hk0) (mm_st1_lk hl0 (mm_ks_head hk0))
  refine ⟨h1, fun ρ H locs ls hr hP hD hS hl => ?_⟩
  exact lv_astore hx hb hd (mm_lc_has hl) hn rfl (fun ls hl1 => h2 ρ H locs ls hr hP hD hS (mm_st1_ok hl (v := .ref x) (mm_ks_head hk0) hl1))
theorem gs_astore_nN (hx : p.tables.exec = Jvm.exec) (hb : c.code = cc) {k : Fin 4} {i : Nat} (hi : (k : Nat) = i) (hn : i < nL) (hd : decode cc pc = .ok (.astore_n k, 1)) (hk : mm_Gd p l e R s m args below meth c Q D cA Y A nL n0 z0 oc ρ0 Mf (pc + 1) (mm_st1 L i .null) r M) : mm_Gd p l e R s m args below meth c Q D cA Y A nL n0 z0 oc ρ0 Mf pc L (.null :: r) M := by
  intro hw0 hn0 hz0 hk0 hl0
  obtain ⟨h1, h2⟩ := hk hw0 hn0 hz0 (mm_ks_tail hk0) (mm_st1_lk hl0 trivial)
  refine ⟨h1, fun ρ H locs ls hr hP hD hS hl => ?_⟩
  exact lv_astore_nN hx hb hd hi (mm_lc_has hl) hn rfl (fun ls hl1 => h2 ρ H locs ls hr hP hD hS (mm_st1_ok hl (v := .null) trivial hl1))
theorem gs_astoreN (hx : p.tables.exec = Jvm.exec) (hb : c.code = cc) {i : Nat} (hn : i < nL) (hd : decode cc pc = .ok (.astore i, 2)) (hk : mm_Gd p l e R s m args below meth c Q D cA Y A nL n0 z0 oc ρ0 Mf (pc + 2) (mm_st1 L i .null) r M) : mm_Gd p l e R s m args below meth c Q D cA Y A nL n0 z0 oc ρ0 Mf pc L (.null :: r) M := by
  intro hw0 hn0 hz0 hk0 hl0
  obtain ⟨h1, h2⟩ := hk hw0 hn0 hz0 (mm_ks_tail hk0) (mm_st1_lk hl0 trivial)
  refine ⟨h1, fun ρ H locs ls hr hP hD hS hl => ?_⟩
  exact lv_astoreN hx hb hd (mm_lc_has hl) hn rfl (fun ls hl1 => h2 ρ H locs ls hr hP hD hS (mm_st1_ok hl (v := .null) trivial hl1))
theorem gs_iinc (hx : p.tables.exec = Jvm.exec) (hb : c.code = cc) {i : Nat} {z : Int} {x y : Int32} (hv : L[i]? = some (some (.int x))) (hz : Int32.ofInt z = y) (hn : i < nL) (hd : decode cc pc = .ok (.iinc i z, 3)) (hk : mm_Gd p l e R s m args below meth c Q D cA Y A nL n0 z0 oc ρ0 Mf (pc + 3) (mm_st1 L i (.int (x + y))) K M) : mm_Gd p l e R s m args below meth c Q D cA Y A nL n0 z0 oc ρ0 Mf pc L K M := by
  intro hw0 hn0 hz0 hk0 hl0
  obtain ⟨h1, h2⟩ := hk hw0 hn0 hz0 hk0 (mm_st1_lk hl0 trivial)
  refine ⟨h1, fun ρ H locs ls hr hP hD hS hl => ?_⟩
  obtain ⟨k, hk2⟩ := List.mem_iff_getElem?.mp (mm_al_mem.mpr ⟨.int x, hv, rfl⟩ : (i, Value.int x) ∈ mm_al ρ L)
  exact lv_iinc hx hb hd (mm_lc_has hl) hk2 (by rw [hz]) hn rfl (fun ls hl1 => h2 ρ H locs ls hr hP hD hS (mm_st1_ok hl (v := .int (x + y)) trivial hl1))
theorem gs_iadd (hx : p.tables.exec = Jvm.exec) (hb : c.code = cc) {x y : Int32}  (hd : decode cc pc = .ok (.iadd, 1)) (hk : mm_Gd p l e R s m args below meth c Q D cA Y A nL n0 z0 oc ρ0 Mf (pc + 1) L (.int (x + y) :: r) M) : mm_Gd p l e R s m args below meth c Q D cA Y A nL n0 z0 oc ρ0 Mf pc L (.int y :: .int x :: r) M := by
  intro hw0 hn0 hz0 hk0 hl0
  obtain ⟨h1, h2⟩ := hk hw0 hn0 hz0 (mm_ks_cons trivial (mm_ks_tail (mm_ks_tail hk0))) hl0
  refine ⟨h1, fun ρ H locs ls hr hP hD hS hl => ?_⟩
  exact lv_iadd hx hb hd  (h2 ρ H locs ls hr hP hD hS hl)
theorem gs_isub (hx : p.tables.exec = Jvm.exec) (hb : c.code = cc) {x y : Int32}  (hd : decode cc pc = .ok (.isub, 1)) (hk : mm_Gd p l e R s m args below meth c Q D cA Y A nL n0 z0 oc ρ0 Mf (pc + 1) L (.int (x - y) :: r) M) : mm_Gd p l e R s m args below meth c Q D cA Y A nL n0 z0 oc ρ0 Mf pc L (.int y :: .int x :: r) M := by
  intro hw0 hn0 hz0 hk0 hl0
  obtain ⟨h1, h2⟩ := hk hw0 hn0 hz0 (mm_ks_cons trivial (mm_ks_tail (mm_ks_tail hk0))) hl0
  refine ⟨h1, fun ρ H locs ls hr hP hD hS hl => ?_⟩
  exact lv_isub hx hb hd  (h2 ρ H locs ls hr hP hD hS hl)
theorem gs_imul (hx : p.tables.exec = Jvm.exec) (hb : c.code = cc) {x y : Int32}  (hd : decode cc pc = .ok (.imul, 1)) (hk : mm_Gd p l e R s m args below meth c Q D cA Y A nL n0 z0 oc ρ0 Mf (pc + 1) L (.int (x * y) :: r) M) : mm_Gd p l e R s m args below meth c Q D cA Y A nL n0 z0 oc ρ0 Mf pc L (.int y :: .int x :: r) M := by
  intro hw0 hn0 hz0 hk0 hl0
  obtain ⟨h1, h2⟩ := hk hw0 hn0 hz0 (mm_ks_cons trivial (mm_ks_tail (mm_ks_tail hk0))) hl0
  refine ⟨h1, fun ρ H locs ls hr hP hD hS hl => ?_⟩
  exact lv_imul hx hb hd  (h2 ρ H locs ls hr hP hD hS hl)
theorem gs_iand (hx : p.tables.exec = Jvm.exec) (hb : c.code = cc) {x y : Int32}  (hd : decode cc pc = .ok (.iand, 1)) (hk : mm_Gd p l e R s m args below meth c Q D cA Y A nL n0 z0 oc ρ0 Mf (pc + 1) L (.int (x &&& y) :: r) M) : mm_Gd p l e R s m args below meth c Q D cA Y A nL n0 z0 oc ρ0 Mf pc L (.int y :: .int x :: r) M := by
  intro hw0 hn0 hz0 hk0 hl0
  obtain ⟨h1, h2⟩ := hk hw0 hn0 hz0 (mm_ks_cons trivial (mm_ks_tail (mm_ks_tail hk0))) hl0
  refine ⟨h1, fun ρ H locs ls hr hP hD hS hl => ?_⟩
  exact lv_iand hx hb hd  (h2 ρ H locs ls hr hP hD hS hl)
theorem gs_ior (hx : p.tables.exec = Jvm.exec) (hb : c.code = cc) {x y : Int32}  (hd : decode cc pc = .ok (.ior, 1)) (hk : mm_Gd p l e R s m args below meth c Q D cA Y A nL n0 z0 oc ρ0 Mf (pc + 1) L (.int (x ||| y) :: r) M) : mm_Gd p l e R s m args below meth c Q D cA Y A nL n0 z0 oc ρ0 Mf pc L (.int y :: .int x :: r) M := by
  intro hw0 hn0 hz0 hk0 hl0
  obtain ⟨h1, h2⟩ := hk hw0 hn0 hz0 (mm_ks_cons trivial (mm_ks_tail (mm_ks_tail hk0))) hl0
  refine ⟨h1, fun ρ H locs ls hr hP hD hS hl => ?_⟩
  exact lv_ior hx hb hd  (h2 ρ H locs ls hr hP hD hS hl)
theorem gs_ixor (hx : p.tables.exec = Jvm.exec) (hb : c.code = cc) {x y : Int32}  (hd : decode cc pc = .ok (.ixor, 1)) (hk : mm_Gd p l e R s m args below meth c Q D cA Y A nL n0 z0 oc ρ0 Mf (pc + 1) L (.int (x ^^^ y) :: r) M) : mm_Gd p l e R s m args below meth c Q D cA Y A nL n0 z0 oc ρ0 Mf pc L (.int y :: .int x :: r) M := by
  intro hw0 hn0 hz0 hk0 hl0
  obtain ⟨h1, h2⟩ := hk hw0 hn0 hz0 (mm_ks_cons trivial (mm_ks_tail (mm_ks_tail hk0))) hl0
  refine ⟨h1, fun ρ H locs ls hr hP hD hS hl => ?_⟩
  exact lv_ixor hx hb hd  (h2 ρ H locs ls hr hP hD hS hl)
theorem gs_ladd (hx : p.tables.exec = Jvm.exec) (hb : c.code = cc) {x y : Int64}  (hd : decode cc pc = .ok (.ladd, 1)) (hk : mm_Gd p l e R s m args below meth c Q D cA Y A nL n0 z0 oc ρ0 Mf (pc + 1) L (.long (x + y) :: r) M) : mm_Gd p l e R s m args below meth c Q D cA Y A nL n0 z0 oc ρ0 Mf pc L (.long y :: .long x :: r) M := by
  intro hw0 hn0 hz0 hk0 hl0
  obtain ⟨h1, h2⟩ := hk hw0 hn0 hz0 (mm_ks_cons trivial (mm_ks_tail (mm_ks_tail hk0))) hl0
  refine ⟨h1, fun ρ H locs ls hr hP hD hS hl => ?_⟩
  exact lv_ladd hx hb hd  (h2 ρ H locs ls hr hP hD hS hl)
theorem gs_lsub (hx : p.tables.exec = Jvm.exec) (hb : c.code = cc) {x y : Int64}  (hd : decode cc pc = .ok (.lsub, 1)) (hk : mm_Gd p l e R s m args below meth c Q D cA Y A nL n0 z0 oc ρ0 Mf (pc + 1) L (.long (x - y) :: r) M) : mm_Gd p l e R s m args below meth c Q D cA Y A nL n0 z0 oc ρ0 Mf pc L (.long y :: .long x :: r) M := by
  intro hw0 hn0 hz0 hk0 hl0
  obtain ⟨h1, h2⟩ := hk hw0 hn0 hz0 (mm_ks_cons trivial (mm_ks_tail (mm_ks_tail hk0))) hl0
  refine ⟨h1, fun ρ H locs ls hr hP hD hS hl => ?_⟩
  exact lv_lsub hx hb hd  (h2 ρ H locs ls hr hP hD hS hl)
theorem gs_lmul (hx : p.tables.exec = Jvm.exec) (hb : c.code = cc) {x y : Int64}  (hd : decode cc pc = .ok (.lmul, 1)) (hk : mm_Gd p l e R s m args below meth c Q D cA Y A nL n0 z0 oc ρ0 Mf (pc + 1) L (.long (x * y) :: r) M) : mm_Gd p l e R s m args below meth c Q D cA Y A nL n0 z0 oc ρ0 Mf pc L (.long y :: .long x :: r) M := by
  intro hw0 hn0 hz0 hk0 hl0
  obtain ⟨h1, h2⟩ := hk hw0 hn0 hz0 (mm_ks_cons trivial (mm_ks_tail (mm_ks_tail hk0))) hl0
  refine ⟨h1, fun ρ H locs ls hr hP hD hS hl => ?_⟩
  exact lv_lmul hx hb hd  (h2 ρ H locs ls hr hP hD hS hl)
theorem gs_land (hx : p.tables.exec = Jvm.exec) (hb : c.code = cc) {x y : Int64}  (hd : decode cc pc = .ok (.land, 1)) (hk : mm_Gd p l e R s m args below meth c Q D cA Y A nL n0 z0 oc ρ0 Mf (pc + 1) L (.long (x &&& y) :: r) M) : mm_Gd p l e R s m args below meth c Q D cA Y A nL n0 z0 oc ρ0 Mf pc L (.long y :: .long x :: r) M := by
  intro hw0 hn0 hz0 hk0 hl0
  obtain ⟨h1, h2⟩ := hk hw0 hn0 hz0 (mm_ks_cons trivial (mm_ks_tail (mm_ks_tail hk0))) hl0
  refine ⟨h1, fun ρ H locs ls hr hP hD hS hl => ?_⟩
  exact lv_land hx hb hd  (h2 ρ H locs ls hr hP hD hS hl)
theorem gs_lor (hx : p.tables.exec = Jvm.exec) (hb : c.code = cc) {x y : Int64}  (hd : decode cc pc = .ok (.lor, 1)) (hk : mm_Gd p l e R s m args below meth c Q D cA Y A nL n0 z0 oc ρ0 Mf (pc + 1) L (.long (x ||| y) :: r) M) : mm_Gd p l e R s m args below meth c Q D cA Y A nL n0 z0 oc ρ0 Mf pc L (.long y :: .long x :: r) M := by
  intro hw0 hn0 hz0 hk0 hl0
  obtain ⟨h1, h2⟩ := hk hw0 hn0 hz0 (mm_ks_cons trivial (mm_ks_tail (mm_ks_tail hk0))) hl0
  refine ⟨h1, fun ρ H locs ls hr hP hD hS hl => ?_⟩
  exact lv_lor hx hb hd  (h2 ρ H locs ls hr hP hD hS hl)
theorem gs_idiv (hx : p.tables.exec = Jvm.exec) (hb : c.code = cc) {x y : Int32} (hne : ¬ y = 0) (hd : decode cc pc = .ok (.idiv, 1)) (hk : mm_Gd p l e R s m args below meth c Q D cA Y A nL n0 z0 oc ρ0 Mf (pc + 1) L (.int (x / y) :: r) M) : mm_Gd p l e R s m args below meth c Q D cA Y A nL n0 z0 oc ρ0 Mf pc L (.int y :: .int x :: r) M := by
  intro hw0 hn0 hz0 hk0 hl0
  obtain ⟨h1, h2⟩ := hk hw0 hn0 hz0 (mm_ks_cons trivial (mm_ks_tail (mm_ks_tail hk0))) hl0
  refine ⟨h1, fun ρ H locs ls hr hP hD hS hl => ?_⟩
  exact lv_idiv hx hb hd hne (h2 ρ H locs ls hr hP hD hS hl)
theorem gs_irem (hx : p.tables.exec = Jvm.exec) (hb : c.code = cc) {x y : Int32} (hne : ¬ y = 0) (hd : decode cc pc = .ok (.irem, 1)) (hk : mm_Gd p l e R s m args below meth c Q D cA Y A nL n0 z0 oc ρ0 Mf (pc + 1) L (.int (x - x / y * y) :: r) M) : mm_Gd p l e R s m args below meth c Q D cA Y A nL n0 z0 oc ρ0 Mf pc L (.int y :: .int x :: r) M := by
  intro hw0 hn0 hz0 hk0 hl0
  obtain ⟨h1, h2⟩ := hk hw0 hn0 hz0 (mm_ks_cons trivial (mm_ks_tail (mm_ks_tail hk0))) hl0
  refine ⟨h1, fun ρ H locs ls hr hP hD hS hl => ?_⟩
  exact lv_irem hx hb hd hne (h2 ρ H locs ls hr hP hD hS hl)
theorem gs_ldiv (hx : p.tables.exec = Jvm.exec) (hb : c.code = cc) {x y : Int64} (hne : ¬ y = 0) (hd : decode cc pc = .ok (.ldiv, 1)) (hk : mm_Gd p l e R s m args below meth c Q D cA Y A nL n0 z0 oc ρ0 Mf (pc + 1) L (.long (x / y) :: r) M) : mm_Gd p l e R s m args below meth c Q D cA Y A nL n0 z0 oc ρ0 Mf pc L (.long y :: .long x :: r) M := by
  intro hw0 hn0 hz0 hk0 hl0
  obtain ⟨h1, h2⟩ := hk hw0 hn0 hz0 (mm_ks_cons trivial (mm_ks_tail (mm_ks_tail hk0))) hl0
  refine ⟨h1, fun ρ H locs ls hr hP hD hS hl => ?_⟩
  exact lv_ldiv hx hb hd hne (h2 ρ H locs ls hr hP hD hS hl)
theorem gs_lrem (hx : p.tables.exec = Jvm.exec) (hb : c.code = cc) {x y : Int64} (hne : ¬ y = 0) (hd : decode cc pc = .ok (.lrem, 1)) (hk : mm_Gd p l e R s m args below meth c Q D cA Y A nL n0 z0 oc ρ0 Mf (pc + 1) L (.long (x - x / y * y) :: r) M) : mm_Gd p l e R s m args below meth c Q D cA Y A nL n0 z0 oc ρ0 Mf pc L (.long y :: .long x :: r) M := by
  intro hw0 hn0 hz0 hk0 hl0
  obtain ⟨h1, h2⟩ := hk hw0 hn0 hz0 (mm_ks_cons trivial (mm_ks_tail (mm_ks_tail hk0))) hl0
  refine ⟨h1, fun ρ H locs ls hr hP hD hS hl => ?_⟩
  exact lv_lrem hx hb hd hne (h2 ρ H locs ls hr hP hD hS hl)
theorem gs_ishl (hx : p.tables.exec = Jvm.exec) (hb : c.code = cc) {x y : Int32}  (hd : decode cc pc = .ok (.ishl, 1)) (hk : mm_Gd p l e R s m args below meth c Q D cA Y A nL n0 z0 oc ρ0 Mf (pc + 1) L (.int (x <<< (y &&& 31)) :: r) M) : mm_Gd p l e R s m args below meth c Q D cA Y A nL n0 z0 oc ρ0 Mf pc L (.int y :: .int x :: r) M := by
  intro hw0 hn0 hz0 hk0 hl0
  obtain ⟨h1, h2⟩ := hk hw0 hn0 hz0 (mm_ks_cons trivial (mm_ks_tail (mm_ks_tail hk0))) hl0
  refine ⟨h1, fun ρ H locs ls hr hP hD hS hl => ?_⟩
  exact lv_ishl hx hb hd  (h2 ρ H locs ls hr hP hD hS hl)
theorem gs_ishr (hx : p.tables.exec = Jvm.exec) (hb : c.code = cc) {x y : Int32}  (hd : decode cc pc = .ok (.ishr, 1)) (hk : mm_Gd p l e R s m args below meth c Q D cA Y A nL n0 z0 oc ρ0 Mf (pc + 1) L (.int (x >>> (y &&& 31)) :: r) M) : mm_Gd p l e R s m args below meth c Q D cA Y A nL n0 z0 oc ρ0 Mf pc L (.int y :: .int x :: r) M := by
  intro hw0 hn0 hz0 hk0 hl0
  obtain ⟨h1, h2⟩ := hk hw0 hn0 hz0 (mm_ks_cons trivial (mm_ks_tail (mm_ks_tail hk0))) hl0
  refine ⟨h1, fun ρ H locs ls hr hP hD hS hl => ?_⟩
  exact lv_ishr hx hb hd  (h2 ρ H locs ls hr hP hD hS hl)
theorem gs_iushr (hx : p.tables.exec = Jvm.exec) (hb : c.code = cc) {x y : Int32}  (hd : decode cc pc = .ok (.iushr, 1)) (hk : mm_Gd p l e R s m args below meth c Q D cA Y A nL n0 z0 oc ρ0 Mf (pc + 1) L (.int ((x.toUInt32 >>> (y.toUInt32 &&& Int32.toUInt32 31)).toInt32) :: r) M) : mm_Gd p l e R s m args below meth c Q D cA Y A nL n0 z0 oc ρ0 Mf pc L (.int y :: .int x :: r) M := by
  intro hw0 hn0 hz0 hk0 hl0
  obtain ⟨h1, h2⟩ := hk hw0 hn0 hz0 (mm_ks_cons trivial (mm_ks_tail (mm_ks_tail hk0))) hl0
  refine ⟨h1, fun ρ H locs ls hr hP hD hS hl => ?_⟩
  exact lv_iushr hx hb hd rfl (h2 ρ H locs ls hr hP hD hS hl)
theorem gs_ineg (hx : p.tables.exec = Jvm.exec) (hb : c.code = cc) {x : Int32} (hd : decode cc pc = .ok (.ineg, 1)) (hk : mm_Gd p l e R s m args below meth c Q D cA Y A nL n0 z0 oc ρ0 Mf (pc + 1) L (.int (-x) :: r) M) : mm_Gd p l e R s m args below meth c Q D cA Y A nL n0 z0 oc ρ0 Mf pc L (.int x :: r) M := by
  intro hw0 hn0 hz0 hk0 hl0
  obtain ⟨h1, h2⟩ := hk hw0 hn0 hz0 (mm_ks_cons trivial (mm_ks_tail hk0)) hl0
  refine ⟨h1, fun ρ H locs ls hr hP hD hS hl => ?_⟩
  exact lv_ineg hx hb hd (h2 ρ H locs ls hr hP hD hS hl)
theorem gs_lcmp (hx : p.tables.exec = Jvm.exec) (hb : c.code = cc) {x y : Int64} (hd : decode cc pc = .ok (.lcmp, 1)) (hk : mm_Gd p l e R s m args below meth c Q D cA Y A nL n0 z0 oc ρ0 Mf (pc + 1) L (.int (lg_cmp x y) :: r) M) : mm_Gd p l e R s m args below meth c Q D cA Y A nL n0 z0 oc ρ0 Mf pc L (.long y :: .long x :: r) M := by
  intro hw0 hn0 hz0 hk0 hl0
  obtain ⟨h1, h2⟩ := hk hw0 hn0 hz0 (mm_ks_cons trivial (mm_ks_tail (mm_ks_tail hk0))) hl0
  refine ⟨h1, fun ρ H locs ls hr hP hD hS hl => ?_⟩
  exact W.lcmp hx hb hd (h2 ρ H locs ls hr hP hD hS hl)
theorem gs_lshl (hx : p.tables.exec = Jvm.exec) (hb : c.code = cc) {x : Int64} {y : Int32} (hd : decode cc pc = .ok (.lshl, 1)) (hk : mm_Gd p l e R s m args below meth c Q D cA Y A nL n0 z0 oc ρ0 Mf (pc + 1) L (.long (x <<< (y.toInt64 &&& 63)) :: r) M) : mm_Gd p l e R s m args below meth c Q D cA Y A nL n0 z0 oc ρ0 Mf pc L (.int y :: .long x :: r) M := by
  intro hw0 hn0 hz0 hk0 hl0
  obtain ⟨h1, h2⟩ := hk hw0 hn0 hz0 (mm_ks_cons trivial (mm_ks_tail (mm_ks_tail hk0))) hl0
  refine ⟨h1, fun ρ H locs ls hr hP hD hS hl => ?_⟩
  exact lv_lshl hx hb hd rfl (h2 ρ H locs ls hr hP hD hS hl)
theorem gs_lushr (hx : p.tables.exec = Jvm.exec) (hb : c.code = cc) {x : Int64} {y : Int32} (hd : decode cc pc = .ok (.lushr, 1)) (hk : mm_Gd p l e R s m args below meth c Q D cA Y A nL n0 z0 oc ρ0 Mf (pc + 1) L (.long (x.toUInt64 >>> (y.toInt64.toUInt64 &&& Int64.toUInt64 63)).toInt64 :: r) M) : mm_Gd p l e R s m args below meth c Q D cA Y A nL n0 z0 oc ρ0 Mf pc L (.int y :: .long x :: r) M := by
  intro hw0 hn0 hz0 hk0 hl0
  obtain ⟨h1, h2⟩ := hk hw0 hn0 hz0 (mm_ks_cons trivial (mm_ks_tail (mm_ks_tail hk0))) hl0
  refine ⟨h1, fun ρ H locs ls hr hP hD hS hl => ?_⟩
  exact lv_lushr hx hb hd rfl (h2 ρ H locs ls hr hP hD hS hl)
theorem gs_i2l (hx : p.tables.exec = Jvm.exec) (hb : c.code = cc) {x : Int32} (hd : decode cc pc = .ok (.i2l, 1)) (hk : mm_Gd p l e R s m args below meth c Q D cA Y A nL n0 z0 oc ρ0 Mf (pc + 1) L (.long x.toInt64 :: r) M) : mm_Gd p l e R s m args below meth c Q D cA Y A nL n0 z0 oc ρ0 Mf pc L (.int x :: r) M := by
  intro hw0 hn0 hz0 hk0 hl0
  obtain ⟨h1, h2⟩ := hk hw0 hn0 hz0 (mm_ks_cons trivial (mm_ks_tail hk0)) hl0
  refine ⟨h1, fun ρ H locs ls hr hP hD hS hl => ?_⟩
  exact lv_i2l hx hb hd rfl (h2 ρ H locs ls hr hP hD hS hl)
theorem gs_l2i (hx : p.tables.exec = Jvm.exec) (hb : c.code = cc) {x : Int64} (hd : decode cc pc = .ok (.l2i, 1)) (hk : mm_Gd p l e R s m args below meth c Q D cA Y A nL n0 z0 oc ρ0 Mf (pc + 1) L (.int x.toInt32 :: r) M) : mm_Gd p l e R s m args below meth c Q D cA Y A nL n0 z0 oc ρ0 Mf pc L (.long x :: r) M := by
  intro hw0 hn0 hz0 hk0 hl0
  obtain ⟨h1, h2⟩ := hk hw0 hn0 hz0 (mm_ks_cons trivial (mm_ks_tail hk0)) hl0
  refine ⟨h1, fun ρ H locs ls hr hP hD hS hl => ?_⟩
  exact lv_l2i hx hb hd rfl (h2 ρ H locs ls hr hP hD hS hl)
theorem mm_c1_cat {ρ : Nat → Nat} {v : Value} (h : mm_c1 v = true) : (mm_tr ρ v).category = 1 := by
  cases v <;> first | rfl | cases h
theorem gs_dup (hx : p.tables.exec = Jvm.exec) (hb : c.code = cc) {v : Value} (hv : mm_c1 v = true) (hd : decode cc pc = .ok (.dup, 1)) (hk : mm_Gd p l e R s m args below meth c Q D cA Y A nL n0 z0 oc ρ0 Mf (pc + 1) L (v :: v :: r) M) : mm_Gd p l e R s m args below meth c Q D cA Y A nL n0 z0 oc ρ0 Mf pc L (v :: r) M := by
  intro hw0 hn0 hz0 hk0 hl0
  obtain ⟨h1, h2⟩ := hk hw0 hn0 hz0 (mm_ks_cons (mm_ks_head hk0) hk0) hl0
  refine ⟨h1, fun ρ H locs ls hr hP hD hS hl => ?_⟩
  exact lv_dup hx hb hd (mm_c1_cat hv) (h2 ρ H locs ls hr hP hD hS hl)
theorem gs_pop (hx : p.tables.exec = Jvm.exec) (hb : c.code = cc) {v : Value} (hv : mm_c1 v = true) (hd : decode cc pc = .ok (.pop, 1)) (hk : mm_Gd p l e R s m args below meth c Q D cA Y A nL n0 z0 oc ρ0 Mf (pc + 1) L r M) : mm_Gd p l e R s m args below meth c Q D cA Y A nL n0 z0 oc ρ0 Mf pc L (v :: r) M := by
  intro hw0 hn0 hz0 hk0 hl0
  obtain ⟨h1, h2⟩ := hk hw0 hn0 hz0 (mm_ks_tail hk0) hl0
  refine ⟨h1, fun ρ H locs ls hr hP hD hS hl => ?_⟩
  exact lv_pop hx hb hd (mm_c1_cat hv) (h2 ρ H locs ls hr hP hD hS hl)
theorem gs_dup2 (hx : p.tables.exec = Jvm.exec) (hb : c.code = cc) {v w : Value} (hv : mm_c1 v = true) (hw : mm_c1 w = true) (hd : decode cc pc = .ok (.dup2, 1)) (hk : mm_Gd p l e R s m args below meth c Q D cA Y A nL n0 z0 oc ρ0 Mf (pc + 1) L (w :: v :: w :: v :: r) M) : mm_Gd p l e R s m args below meth c Q D cA Y A nL n0 z0 oc ρ0 Mf pc L (w :: v :: r) M := by
  intro hw0 hn0 hz0 hk0 hl0
  obtain ⟨h1, h2⟩ := hk hw0 hn0 hz0 (mm_ks_cons (mm_ks_head hk0) (mm_ks_cons (mm_ks_head (mm_ks_tail hk0)) hk0)) hl0
  refine ⟨h1, fun ρ H locs ls hr hP hD hS hl => ?_⟩
  exact lv_dup2_11 hx hb hd (mm_c1_cat hw) (mm_c1_cat hv) (h2 ρ H locs ls hr hP hD hS hl)
theorem gs_goto (hx : p.tables.exec = Jvm.exec) (hb : c.code = cc) {off : Int} {tgt : Nat} (hd : decode cc pc = .ok (.goto off, 3)) (ht : (pc : Int) + off = (tgt : Int)) (hk : mm_Gd p l e R s m args below meth c Q D cA Y A nL n0 z0 oc ρ0 Mf tgt L K M) : mm_Gd p l e R s m args below meth c Q D cA Y A nL n0 z0 oc ρ0 Mf pc L K M := by
  intro hw0 hn0 hz0 hk0 hl0
  obtain ⟨h1, h2⟩ := hk hw0 hn0 hz0 hk0 hl0
  exact ⟨h1, fun ρ H locs ls hr hP hD hS hl => lv_goto hx hb hd ht (h2 ρ H locs ls hr hP hD hS hl)⟩
theorem gs_icmp_eq (hx : p.tables.exec = Jvm.exec) (hb : c.code = cc) {x y : Int32} {off : Int} {tgt : Nat} (hd : decode cc pc = .ok (.if_icmp .eq off, 3)) (ht : (pc : Int) + off = (tgt : Int)) (kt : x = y → mm_Gd p l e R s m args below meth c Q D cA Y A nL n0 z0 oc ρ0 Mf tgt L r M) (kf : ¬ x = y → mm_Gd p l e R s m args below meth c Q D cA Y A nL n0 z0 oc ρ0 Mf (pc + 3) L r M) : mm_Gd p l e R s m args below meth c Q D cA Y A nL n0 z0 oc ρ0 Mf pc L (.int y :: .int x :: r) M := by
  intro hw0 hn0 hz0 hk0 hl0
  refine ⟨?_, fun ρ H locs ls hr hP hD hS hl => lv_icmp_eq hx hb hd ht (fun q => (kt q hw0 hn0 hz0 (mm_ks_tail (mm_ks_tail hk0)) hl0).2 ρ H locs ls hr hP hD hS hl) (fun q => (kf q hw0 hn0 hz0 (mm_ks_tail (mm_ks_tail hk0)) hl0).2 ρ H locs ls hr hP hD hS hl)⟩
  by_cases q : x = y
  · exact (kt q hw0 hn0 hz0 (mm_ks_tail (mm_ks_tail hk0)) hl0).1
  · exact (kf q hw0 hn0 hz0 (mm_ks_tail (mm_ks_tail hk0)) hl0).1
theorem gs_if_eq (hx : p.tables.exec = Jvm.exec) (hb : c.code = cc) {x : Int32} {off : Int} {tgt : Nat} (hd : decode cc pc = .ok (.ifCond .eq off, 3)) (ht : (pc : Int) + off = (tgt : Int)) (kt : x = 0 → mm_Gd p l e R s m args below meth c Q D cA Y A nL n0 z0 oc ρ0 Mf tgt L r M) (kf : ¬ x = 0 → mm_Gd p l e R s m args below meth c Q D cA Y A nL n0 z0 oc ρ0 Mf (pc + 3) L r M) : mm_Gd p l e R s m args below meth c Q D cA Y A nL n0 z0 oc ρ0 Mf pc L (.int x :: r) M := by
  intro hw0 hn0 hz0 hk0 hl0
  refine ⟨?_, fun ρ H locs ls hr hP hD hS hl => lv_if_eq hx hb hd ht (fun q => (kt q hw0 hn0 hz0 (mm_ks_tail hk0) hl0).2 ρ H locs ls hr hP hD hS hl) (fun q => (kf q hw0 hn0 hz0 (mm_ks_tail hk0) hl0).2 ρ H locs ls hr hP hD hS hl)⟩
  by_cases q : x = 0
  · exact (kt q hw0 hn0 hz0 (mm_ks_tail hk0) hl0).1
  · exact (kf q hw0 hn0 hz0 (mm_ks_tail hk0) hl0).1
theorem gs_icmp_ne (hx : p.tables.exec = Jvm.exec) (hb : c.code = cc) {x y : Int32} {off : Int} {tgt : Nat} (hd : decode cc pc = .ok (.if_icmp .ne off, 3)) (ht : (pc : Int) + off = (tgt : Int)) (kt : ¬ x = y → mm_Gd p l e R s m args below meth c Q D cA Y A nL n0 z0 oc ρ0 Mf tgt L r M) (kf : x = y → mm_Gd p l e R s m args below meth c Q D cA Y A nL n0 z0 oc ρ0 Mf (pc + 3) L r M) : mm_Gd p l e R s m args below meth c Q D cA Y A nL n0 z0 oc ρ0 Mf pc L (.int y :: .int x :: r) M := by
  intro hw0 hn0 hz0 hk0 hl0
  refine ⟨?_, fun ρ H locs ls hr hP hD hS hl => lv_icmp_ne hx hb hd ht (fun q => (kt q hw0 hn0 hz0 (mm_ks_tail (mm_ks_tail hk0)) hl0).2 ρ H locs ls hr hP hD hS hl) (fun q => (kf q hw0 hn0 hz0 (mm_ks_tail (mm_ks_tail hk0)) hl0).2 ρ H locs ls hr hP hD hS hl)⟩
  by_cases q : ¬ x = y
  · exact (kt q hw0 hn0 hz0 (mm_ks_tail (mm_ks_tail hk0)) hl0).1
  · exact (kf (Decidable.of_not_not q) hw0 hn0 hz0 (mm_ks_tail (mm_ks_tail hk0)) hl0).1
theorem gs_if_ne (hx : p.tables.exec = Jvm.exec) (hb : c.code = cc) {x : Int32} {off : Int} {tgt : Nat} (hd : decode cc pc = .ok (.ifCond .ne off, 3)) (ht : (pc : Int) + off = (tgt : Int)) (kt : ¬ x = 0 → mm_Gd p l e R s m args below meth c Q D cA Y A nL n0 z0 oc ρ0 Mf tgt L r M) (kf : x = 0 → mm_Gd p l e R s m args below meth c Q D cA Y A nL n0 z0 oc ρ0 Mf (pc + 3) L r M) : mm_Gd p l e R s m args below meth c Q D cA Y A nL n0 z0 oc ρ0 Mf pc L (.int x :: r) M := by
  intro hw0 hn0 hz0 hk0 hl0
  refine ⟨?_, fun ρ H locs ls hr hP hD hS hl => lv_if_ne hx hb hd ht (fun q => (kt q hw0 hn0 hz0 (mm_ks_tail hk0) hl0).2 ρ H locs ls hr hP hD hS hl) (fun q => (kf q hw0 hn0 hz0 (mm_ks_tail hk0) hl0).2 ρ H locs ls hr hP hD hS hl)⟩
  by_cases q : ¬ x = 0
  · exact (kt q hw0 hn0 hz0 (mm_ks_tail hk0) hl0).1
  · exact (kf (Decidable.of_not_not q) hw0 hn0 hz0 (mm_ks_tail hk0) hl0).1
theorem gs_icmp_lt (hx : p.tables.exec = Jvm.exec) (hb : c.code = cc) {x y : Int32} {off : Int} {tgt : Nat} (hd : decode cc pc = .ok (.if_icmp .lt off, 3)) (ht : (pc : Int) + off = (tgt : Int)) (kt : x < y → mm_Gd p l e R s m args below meth c Q D cA Y A nL n0 z0 oc ρ0 Mf tgt L r M) (kf : ¬ x < y → mm_Gd p l e R s m args below meth c Q D cA Y A nL n0 z0 oc ρ0 Mf (pc + 3) L r M) : mm_Gd p l e R s m args below meth c Q D cA Y A nL n0 z0 oc ρ0 Mf pc L (.int y :: .int x :: r) M := by
  intro hw0 hn0 hz0 hk0 hl0
  refine ⟨?_, fun ρ H locs ls hr hP hD hS hl => lv_icmp_lt hx hb hd ht (fun q => (kt q hw0 hn0 hz0 (mm_ks_tail (mm_ks_tail hk0)) hl0).2 ρ H locs ls hr hP hD hS hl) (fun q => (kf q hw0 hn0 hz0 (mm_ks_tail (mm_ks_tail hk0)) hl0).2 ρ H locs ls hr hP hD hS hl)⟩
  by_cases q : x < y
  · exact (kt q hw0 hn0 hz0 (mm_ks_tail (mm_ks_tail hk0)) hl0).1
  · exact (kf q hw0 hn0 hz0 (mm_ks_tail (mm_ks_tail hk0)) hl0).1
theorem gs_if_lt (hx : p.tables.exec = Jvm.exec) (hb : c.code = cc) {x : Int32} {off : Int} {tgt : Nat} (hd : decode cc pc = .ok (.ifCond .lt off, 3)) (ht : (pc : Int) + off = (tgt : Int)) (kt : x < 0 → mm_Gd p l e R s m args below meth c Q D cA Y A nL n0 z0 oc ρ0 Mf tgt L r M) (kf : ¬ x < 0 → mm_Gd p l e R s m args below meth c Q D cA Y A nL n0 z0 oc ρ0 Mf (pc + 3) L r M) : mm_Gd p l e R s m args below meth c Q D cA Y A nL n0 z0 oc ρ0 Mf pc L (.int x :: r) M := by
  intro hw0 hn0 hz0 hk0 hl0
  refine ⟨?_, fun ρ H locs ls hr hP hD hS hl => lv_if_lt hx hb hd ht (fun q => (kt q hw0 hn0 hz0 (mm_ks_tail hk0) hl0).2 ρ H locs ls hr hP hD hS hl) (fun q => (kf q hw0 hn0 hz0 (mm_ks_tail hk0) hl0).2 ρ H locs ls hr hP hD hS hl)⟩
  by_cases q : x < 0
  · exact (kt q hw0 hn0 hz0 (mm_ks_tail hk0) hl0).1
  · exact (kf q hw0 hn0 hz0 (mm_ks_tail hk0) hl0).1
theorem gs_icmp_ge (hx : p.tables.exec = Jvm.exec) (hb : c.code = cc) {x y : Int32} {off : Int} {tgt : Nat} (hd : decode cc pc = .ok (.if_icmp .ge off, 3)) (ht : (pc : Int) + off = (tgt : Int)) (kt : y ≤ x → mm_Gd p l e R s m args below meth c Q D cA Y A nL n0 z0 oc ρ0 Mf tgt L r M) (kf : ¬ y ≤ x → mm_Gd p l e R s m args below meth c Q D cA Y A nL n0 z0 oc ρ0 Mf (pc + 3) L r M) : mm_Gd p l e R s m args below meth c Q D cA Y A nL n0 z0 oc ρ0 Mf pc L (.int y :: .int x :: r) M := by
  intro hw0 hn0 hz0 hk0 hl0
  refine ⟨?_, fun ρ H locs ls hr hP hD hS hl => lv_icmp_ge hx hb hd ht (fun q => (kt q hw0 hn0 hz0 (mm_ks_tail (mm_ks_tail hk0)) hl0).2 ρ H locs ls hr hP hD hS hl) (fun q => (kf q hw0 hn0 hz0 (mm_ks_tail (mm_ks_tail hk0)) hl0).2 ρ H locs ls hr hP hD hS hl)⟩
  by_cases q : y ≤ x
  · exact (kt q hw0 hn0 hz0 (mm_ks_tail (mm_ks_tail hk0)) hl0).1
  · exact (kf q hw0 hn0 hz0 (mm_ks_tail (mm_ks_tail hk0)) hl0).1
theorem gs_if_ge (hx : p.tables.exec = Jvm.exec) (hb : c.code = cc) {x : Int32} {off : Int} {tgt : Nat} (hd : decode cc pc = .ok (.ifCond .ge off, 3)) (ht : (pc : Int) + off = (tgt : Int)) (kt : 0 ≤ x → mm_Gd p l e R s m args below meth c Q D cA Y A nL n0 z0 oc ρ0 Mf tgt L r M) (kf : ¬ 0 ≤ x → mm_Gd p l e R s m args below meth c Q D cA Y A nL n0 z0 oc ρ0 Mf (pc + 3) L r M) : mm_Gd p l e R s m args below meth c Q D cA Y A nL n0 z0 oc ρ0 Mf pc L (.int x :: r) M := by
  intro hw0 hn0 hz0 hk0 hl0
  refine ⟨?_, fun ρ H locs ls hr hP hD hS hl => lv_if_ge hx hb hd ht (fun q => (kt q hw0 hn0 hz0 (mm_ks_tail hk0) hl0).2 ρ H locs ls hr hP hD hS hl) (fun q => (kf q hw0 hn0 hz0 (mm_ks_tail hk0) hl0).2 ρ H locs ls hr hP hD hS hl)⟩
  by_cases q : 0 ≤ x
  · exact (kt q hw0 hn0 hz0 (mm_ks_tail hk0) hl0).1
  · exact (kf q hw0 hn0 hz0 (mm_ks_tail hk0) hl0).1
theorem gs_icmp_gt (hx : p.tables.exec = Jvm.exec) (hb : c.code = cc) {x y : Int32} {off : Int} {tgt : Nat} (hd : decode cc pc = .ok (.if_icmp .gt off, 3)) (ht : (pc : Int) + off = (tgt : Int)) (kt : y < x → mm_Gd p l e R s m args below meth c Q D cA Y A nL n0 z0 oc ρ0 Mf tgt L r M) (kf : ¬ y < x → mm_Gd p l e R s m args below meth c Q D cA Y A nL n0 z0 oc ρ0 Mf (pc + 3) L r M) : mm_Gd p l e R s m args below meth c Q D cA Y A nL n0 z0 oc ρ0 Mf pc L (.int y :: .int x :: r) M := by
  intro hw0 hn0 hz0 hk0 hl0
  refine ⟨?_, fun ρ H locs ls hr hP hD hS hl => lv_icmp_gt hx hb hd ht (fun q => (kt q hw0 hn0 hz0 (mm_ks_tail (mm_ks_tail hk0)) hl0).2 ρ H locs ls hr hP hD hS hl) (fun q => (kf q hw0 hn0 hz0 (mm_ks_tail (mm_ks_tail hk0)) hl0).2 ρ H locs ls hr hP hD hS hl)⟩
  by_cases q : y < x
  · exact (kt q hw0 hn0 hz0 (mm_ks_tail (mm_ks_tail hk0)) hl0).1
  · exact (kf q hw0 hn0 hz0 (mm_ks_tail (mm_ks_tail hk0)) hl0).1
theorem gs_if_gt (hx : p.tables.exec = Jvm.exec) (hb : c.code = cc) {x : Int32} {off : Int} {tgt : Nat} (hd : decode cc pc = .ok (.ifCond .gt off, 3)) (ht : (pc : Int) + off = (tgt : Int)) (kt : 0 < x → mm_Gd p l e R s m args below meth c Q D cA Y A nL n0 z0 oc ρ0 Mf tgt L r M) (kf : ¬ 0 < x → mm_Gd p l e R s m args below meth c Q D cA Y A nL n0 z0 oc ρ0 Mf (pc + 3) L r M) : mm_Gd p l e R s m args below meth c Q D cA Y A nL n0 z0 oc ρ0 Mf pc L (.int x :: r) M := by
  intro hw0 hn0 hz0 hk0 hl0
  refine ⟨?_, fun ρ H locs ls hr hP hD hS hl => lv_if_gt hx hb hd ht (fun q => (kt q hw0 hn0 hz0 (mm_ks_tail hk0) hl0).2 ρ H locs ls hr hP hD hS hl) (fun q => (kf q hw0 hn0 hz0 (mm_ks_tail hk0) hl0).2 ρ H locs ls hr hP hD hS hl)⟩
  by_cases q : 0 < x
  · exact (kt q hw0 hn0 hz0 (mm_ks_tail hk0) hl0).1
  · exact (kf q hw0 hn0 hz0 (mm_ks_tail hk0) hl0).1
theorem gs_icmp_le (hx : p.tables.exec = Jvm.exec) (hb : c.code = cc) {x y : Int32} {off : Int} {tgt : Nat} (hd : decode cc pc = .ok (.if_icmp .le off, 3)) (ht : (pc : Int) + off = (tgt : Int)) (kt : x ≤ y → mm_Gd p l e R s m args below meth c Q D cA Y A nL n0 z0 oc ρ0 Mf tgt L r M) (kf : ¬ x ≤ y → mm_Gd p l e R s m args below meth c Q D cA Y A nL n0 z0 oc ρ0 Mf (pc + 3) L r M) : mm_Gd p l e R s m args below meth c Q D cA Y A nL n0 z0 oc ρ0 Mf pc L (.int y :: .int x :: r) M := by
  intro hw0 hn0 hz0 hk0 hl0
  refine ⟨?_, fun ρ H locs ls hr hP hD hS hl => lv_icmp_le hx hb hd ht (fun q => (kt q hw0 hn0 hz0 (mm_ks_tail (mm_ks_tail hk0)) hl0).2 ρ H locs ls hr hP hD hS hl) (fun q => (kf q hw0 hn0 hz0 (mm_ks_tail (mm_ks_tail hk0)) hl0).2 ρ H locs ls hr hP hD hS hl)⟩
  by_cases q : x ≤ y
  · exact (kt q hw0 hn0 hz0 (mm_ks_tail (mm_ks_tail hk0)) hl0).1
  · exact (kf q hw0 hn0 hz0 (mm_ks_tail (mm_ks_tail hk0)) hl0).1
theorem gs_if_le (hx : p.tables.exec = Jvm.exec) (hb : c.code = cc) {x : Int32} {off : Int} {tgt : Nat} (hd : decode cc pc = .ok (.ifCond .le off, 3)) (ht : (pc : Int) + off = (tgt : Int)) (kt : x ≤ 0 → mm_Gd p l e R s m args below meth c Q D cA Y A nL n0 z0 oc ρ0 Mf tgt L r M) (kf : ¬ x ≤ 0 → mm_Gd p l e R s m args below meth c Q D cA Y A nL n0 z0 oc ρ0 Mf (pc + 3) L r M) : mm_Gd p l e R s m args below meth c Q D cA Y A nL n0 z0 oc ρ0 Mf pc L (.int x :: r) M := by
  intro hw0 hn0 hz0 hk0 hl0
  refine ⟨?_, fun ρ H locs ls hr hP hD hS hl => lv_if_le hx hb hd ht (fun q => (kt q hw0 hn0 hz0 (mm_ks_tail hk0) hl0).2 ρ H locs ls hr hP hD hS hl) (fun q => (kf q hw0 hn0 hz0 (mm_ks_tail hk0) hl0).2 ρ H locs ls hr hP hD hS hl)⟩
  by_cases q : x ≤ 0
  · exact (kt q hw0 hn0 hz0 (mm_ks_tail hk0) hl0).1
  · exact (kf q hw0 hn0 hz0 (mm_ks_tail hk0) hl0).1
theorem gs_ifnull_r (hx : p.tables.exec = Jvm.exec) (hb : c.code = cc) {x : Nat} {off : Int} {tgt : Nat} (hd : decode cc pc = .ok (.ifnull off, 3)) (ht : (pc : Int) + off = (tgt : Int)) (hk : mm_Gd p l e R s m args below meth c Q D cA Y A nL n0 z0 oc ρ0 Mf (pc + 3) L r M) : mm_Gd p l e R s m args below meth c Q D cA Y A nL n0 z0 oc ρ0 Mf pc L (.ref x :: r) M := by
  intro hw0 hn0 hz0 hk0 hl0
  obtain ⟨h1, h2⟩ := hk hw0 hn0 hz0 (mm_ks_tail hk0) hl0
  exact ⟨h1, fun ρ H locs ls hr hP hD hS hl => lv_ifnull hx hb hd (h2 ρ H locs ls hr hP hD hS hl)⟩
theorem gs_ifnull_n (hx : p.tables.exec = Jvm.exec) (hb : c.code = cc) {x : Nat} {off : Int} {tgt : Nat} (hd : decode cc pc = .ok (.ifnull off, 3)) (ht : (pc : Int) + off = (tgt : Int)) (hk : mm_Gd p l e R s m args below meth c Q D cA Y A nL n0 z0 oc ρ0 Mf tgt L r M) : mm_Gd p l e R s m args below meth c Q D cA Y A nL n0 z0 oc ρ0 Mf pc L (.null :: r) M := by
  intro hw0 hn0 hz0 hk0 hl0
  obtain ⟨h1, h2⟩ := hk hw0 hn0 hz0 (mm_ks_tail hk0) hl0
  exact ⟨h1, fun ρ H locs ls hr hP hD hS hl => lv_ifnullN hx hb hd ht (h2 ρ H locs ls hr hP hD hS hl)⟩
theorem gs_ifnonnull_r (hx : p.tables.exec = Jvm.exec) (hb : c.code = cc) {x : Nat} {off : Int} {tgt : Nat} (hd : decode cc pc = .ok (.ifnonnull off, 3)) (ht : (pc : Int) + off = (tgt : Int)) (hk : mm_Gd p l e R s m args below meth c Q D cA Y A nL n0 z0 oc ρ0 Mf tgt L r M) : mm_Gd p l e R s m args below meth c Q D cA Y A nL n0 z0 oc ρ0 Mf pc L (.ref x :: r) M := by
  intro hw0 hn0 hz0 hk0 hl0
  obtain ⟨h1, h2⟩ := hk hw0 hn0 hz0 (mm_ks_tail hk0) hl0
  exact ⟨h1, fun ρ H locs ls hr hP hD hS hl => lv_ifnonnull hx hb hd ht (h2 ρ H locs ls hr hP hD hS hl)⟩
theorem gs_ifnonnull_n (hx : p.tables.exec = Jvm.exec) (hb : c.code = cc) {x : Nat} {off : Int} {tgt : Nat} (hd : decode cc pc = .ok (.ifnonnull off, 3)) (ht : (pc : Int) + off = (tgt : Int)) (hk : mm_Gd p l e R s m args below meth c Q D cA Y A nL n0 z0 oc ρ0 Mf (pc + 3) L r M) : mm_Gd p l e R s m args below meth c Q D cA Y A nL n0 z0 oc ρ0 Mf pc L (.null :: r) M := by
  intro hw0 hn0 hz0 hk0 hl0
  obtain ⟨h1, h2⟩ := hk hw0 hn0 hz0 (mm_ks_tail hk0) hl0
  exact ⟨h1, fun ρ H locs ls hr hP hD hS hl => lv_ifnonnullN hx hb hd (h2 ρ H locs ls hr hP hD hS hl)⟩
end GS
