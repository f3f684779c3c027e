/-- what a method leaves: its answer, the new world, the rest as it was -/
def mm_Qc (D : va_G) (cA : Nat → ClassId) (Y : mmY) (ρ : Nat → Nat) (M : mmM) (v : Option Value) (M' : mmM) (sz : Nat) : Array Value → State → Outcome → State → Prop := fun _ st oc t =>
  (∃ ρ' : Nat → Nat, (∀ b, b < M.2.1 → ρ' b = ρ b) ∧ oc = .returned (v.map (mm_tr ρ')) ∧ va_P D mm_cl (mm_enc cA ρ' Y M') t.heap ∧ va_K D mm_cl (mm_tysA cA) t ∧ va_D (va_A (mm_enc cA ρ Y M) sz) (mm_enc cA ρ' Y M')) ∧ va_F (va_A (mm_enc cA ρ Y M) sz) st t
/-- the world that a method finds -/
def mm_Wd (D : va_G) (cA : Nat → ClassId) (Y : mmY) (nest : List Cond) (ρ : Nat → Nat) (M : mmM) (sz : Nat) (U : State) : Prop :=
  U.heap.size = sz ∧ va_P D mm_cl (mm_enc cA ρ Y M) U.heap ∧ va_K D mm_cl (mm_tysA cA) U ∧ va_D (fun _ => True) (mm_enc cA ρ Y M) ∧ mm_cnT Y ρ (va_A (mm_enc cA ρ Y M) sz) U U.heap ∧ mm_cnZ ρ (va_A (mm_enc cA ρ Y M) sz) U U.heap ∧ mm_cnN nest U ∧ va_AO RX0 U ∧ mm_c5 cA U
def mm_isN (w : Cond) : Bool := match w with
  | .fieldLinkNest _ _ _ _ _ _ => true
  | .methodLinkNest _ _ _ _ => true
  | _ => false
theorem mm_nw {w : Cond} {s U : State} (h : mm_isN w = true) (hW : s.WarmedH U.vm) (hZ : va_Nw w s) : va_Nw w U := by
  unfold mm_isN at h
  split at h
  · exact va_Nw.warmF hW hZ
  · exact va_Nw.warmM hW hZ
  · cases h
theorem mm_nw_same {w : Cond} {s U : State} (h : mm_isN w = true) (e : s.vm = U.vm) (hZ : va_Nw w s) : va_Nw w U := by
  unfold mm_isN at h
  split at h
  · exact va_Nw.same rfl e hZ
  · exact va_Nw.same rfl e hZ
  · cases h
theorem mm_c5_moved {cA : Nat → ClassId} {u U : State} (hvm : u.vm.Alike U.vm) (h : mm_c5 cA u) : mm_c5 cA U := by
  obtain ⟨h0, kA, kI, h1, h2, h3, h4⟩ := h
  obtain ⟨kA', e1, e2⟩ := hvm.2.2 _ _ h1
  obtain ⟨kI', e3, -⟩ := hvm.2.2 _ _ h3
  exact ⟨va_AOA.moved hvm h0, kA', kI', e1, by rw [e2]; exact h2, e3, by rw [hvm.assignable]; exact h4⟩

section GC
variable {p : Program} {l : Launch} {e : Env} {R : Room} {s : State} {m : MethodId} {args : Array Value} {below : List Frame} {meth : Method} {c : Code} {Q : State → Prop} {D : va_G} {cA : Nat → ClassId} {Y : mmY} {A : Nat → Prop} {nL n0 z0 oc : Nat} {ρ0 : Nat → Nat} {Mf : mmM} {cc : ByteArray} {pc : Nat} {L : mmL} {K r : List Value} {M : mmM}
theorem gc_iret (hx : p.tables.exec = Jvm.exec) (hb : c.code = cc) {M0 : mmM} {x : Int32} {y : Int64} {a : Nat} (hA : A = va_A (mm_enc cA ρ0 Y M0) s.heap.size) (hM0 : M0.2.1 = n0) (hK : va_K D mm_cl (mm_tysA cA) s) (hlocks : meth.locks = false) (hr : meth.sig.returnType = some .int) (hd : decode cc pc = .ok (.ireturn, 1)) : mm_Gd p l e R s m args below meth c (MQ below (mm_Qc D cA Y ρ0 M0 (some (.int x)) M s.heap.size) args s (M.2.1 + oc - n0) (M.2.2.1 - z0) A) D cA Y A nL n0 z0 oc ρ0 M pc L [.int x] M := by
  intro hw0 hn0 hz0 hk0 hl0
  refine ⟨⟨hw0, Nat.le_refl _, Nat.le_refl _⟩, fun ρ H locs ls hr0 hP hD hS hl => ?_⟩
  exact W.iret (v := x) hx hb hr (fun t ht hW => ⟨⟨ρ, fun b hb1 => hr0 b (by omega), rfl, by rw [ht]; exact hP, va_K.moved hW.alike hK, by rw [← hA]; exact hD⟩, by rw [← hA]; exact hS.F ht⟩) hS.2.2 hd
theorem gc_zret (hx : p.tables.exec = Jvm.exec) (hb : c.code = cc) {M0 : mmM} {x : Int32} {y : Int64} {a : Nat} (hA : A = va_A (mm_enc cA ρ0 Y M0) s.heap.size) (hM0 : M0.2.1 = n0) (hK : va_K D mm_cl (mm_tysA cA) s) (hlocks : meth.locks = false) (hr : meth.sig.returnType = some .boolean) (h01 : x = 0 ∨ x = 1) (hd : decode cc pc = .ok (.ireturn, 1)) : mm_Gd p l e R s m args below meth c (MQ below (mm_Qc D cA Y ρ0 M0 (some (.int x)) M s.heap.size) args s (M.2.1 + oc - n0) (M.2.2.1 - z0) A) D cA Y A nL n0 z0 oc ρ0 M pc L [.int x] M := by
  intro hw0 hn0 hz0 hk0 hl0
  refine ⟨⟨hw0, Nat.le_refl _, Nat.le_refl _⟩, fun ρ H locs ls hr0 hP hD hS hl => ?_⟩
  exact W.zret (v := x) hx hb hr (by rcases h01 with rfl | rfl <;> rfl) (fun t ht hW => ⟨⟨ρ, fun b hb1 => hr0 b (by omega), rfl, by rw [ht]; exact hP, va_K.moved hW.alike hK, by rw [← hA]; exact hD⟩, by rw [← hA]; exact hS.F ht⟩) hS.2.2 hd
theorem gc_lret (hx : p.tables.exec = Jvm.exec) (hb : c.code = cc) {M0 : mmM} {x : Int32} {y : Int64} {a : Nat} (hA : A = va_A (mm_enc cA ρ0 Y M0) s.heap.size) (hM0 : M0.2.1 = n0) (hK : va_K D mm_cl (mm_tysA cA) s) (hlocks : meth.locks = false) (hr : meth.sig.returnType = some .long) (hd : decode cc pc = .ok (.lreturn, 1)) : mm_Gd p l e R s m args below meth c (MQ below (mm_Qc D cA Y ρ0 M0 (some (.long y)) M s.heap.size) args s (M.2.1 + oc - n0) (M.2.2.1 - z0) A) D cA Y A nL n0 z0 oc ρ0 M pc L [.long y] M := by
  intro hw0 hn0 hz0 hk0 hl0
  refine ⟨⟨hw0, Nat.le_refl _, Nat.le_refl _⟩, fun ρ H locs ls hr0 hP hD hS hl => ?_⟩
  exact W.lret (v := y) hx hb hr (fun t ht hW => ⟨⟨ρ, fun b hb1 => hr0 b (by omega), rfl, by rw [ht]; exact hP, va_K.moved hW.alike hK, by rw [← hA]; exact hD⟩, by rw [← hA]; exact hS.F ht⟩) hS.2.2 hd
theorem gc_vret (hx : p.tables.exec = Jvm.exec) (hb : c.code = cc) {M0 : mmM} {x : Int32} {y : Int64} {a : Nat} (hA : A = va_A (mm_enc cA ρ0 Y M0) s.heap.size) (hM0 : M0.2.1 = n0) (hK : va_K D mm_cl (mm_tysA cA) s) (hlocks : meth.locks = false) (hr : meth.sig.returnType = none) (hd : decode cc pc = .ok (.return_, 1)) : mm_Gd p l e R s m args below meth c (MQ below (mm_Qc D cA Y ρ0 M0 none M s.heap.size) args s (M.2.1 + oc - n0) (M.2.2.1 - z0) A) D cA Y A nL n0 z0 oc ρ0 M pc L [] M := by
  intro hw0 hn0 hz0 hk0 hl0
  refine ⟨⟨hw0, Nat.le_refl _, Nat.le_refl _⟩, fun ρ H locs ls hr0 hP hD hS hl => ?_⟩
  exact W.vret hx hb hr (fun t ht hW => ⟨⟨ρ, fun b hb1 => hr0 b (by omega), rfl, by rw [ht]; exact hP, va_K.moved hW.alike hK, by rw [← hA]; exact hD⟩, by rw [← hA]; exact hS.F ht⟩) hS.2.2 hd
theorem gc_aret (hx : p.tables.exec = Jvm.exec) (hb : c.code = cc) {M0 : mmM} {x : Int32} {y : Int64} {a : Nat} (hA : A = va_A (mm_enc cA ρ0 Y M0) s.heap.size) (hM0 : M0.2.1 = n0) (hK : va_K D mm_cl (mm_tysA cA) s) (hlocks : meth.locks = false) {rt : FieldType} (hr : meth.sig.returnType = some rt) (hrt : (∃ n, rt = .object n) ∨ ∃ t, rt = .array t) (hd : decode cc pc = .ok (.areturn, 1)) : mm_Gd p l e R s m args below meth c (MQ below (mm_Qc D cA Y ρ0 M0 (some (.ref a)) M s.heap.size) args s (M.2.1 + oc - n0) (M.2.2.1 - z0) A) D cA Y A nL n0 z0 oc ρ0 M pc L [.ref a] M := by
  intro hw0 hn0 hz0 hk0 hl0
  refine ⟨⟨hw0, Nat.le_refl _, Nat.le_refl _⟩, fun ρ H locs ls hr0 hP hD hS hl => ?_⟩
  exact W.aret (v := .ref (ρ a)) hx hb hr hrt (Or.inr ⟨_, rfl⟩) (fun t ht hW => ⟨⟨ρ, fun b hb1 => hr0 b (by omega), rfl, by rw [ht]; exact hP, va_K.moved hW.alike hK, by rw [← hA]; exact hD⟩, by rw [← hA]; exact hS.F ht⟩) hS.2.2 hd
theorem mm_sw_in {x : Int32} {d : Nat} {g : Nat → Option mmR} {res : mmR} : ∀ (w : List (Int32 × Nat)), mm_sw x d g w = some res → (∃ (j : Nat) (q : Int32 × Nat), w[j]? = some q ∧ x = q.1 ∧ (∀ (i : Nat) (p : Int32 × Nat), i < j → w[i]? = some p → x ≠ p.1) ∧ g q.2 = some res) ∨ ((∀ q ∈ w, x ≠ q.1) ∧ g d = some res)
  | [], h => Or.inr ⟨fun q hq => (List.not_mem_nil hq).elim, h⟩
  | q :: w, h => by
    change (if x = q.1 then g q.2 else mm_sw x d g w) = some res at h
    by_cases e : x = q.1
    · rw [if_pos e] at h
      exact Or.inl ⟨0, q, rfl, e, fun i p hi => by omega, h⟩
    · rw [if_neg e] at h
      rcases mm_sw_in w h with ⟨j, p, h1, h2, h3, h4⟩ | ⟨h1, h2⟩
      · refine Or.inl ⟨j + 1, p, h1, h2, fun i z hi hz => ?_, h4⟩
        cases i with
        | zero => cases hz; exact e
        | succ i => exact h3 i z (by omega) hz
      · refine Or.inr ⟨fun z hz => ?_, h2⟩
        rcases List.mem_cons.mp hz with rfl | hz
        · exact e
        · exact h1 z hz
/-- a table's keys and targets, one by one -/
def mm_tsw (pc : Nat) : Int → List Int → List (Int32 × Nat) → Bool
  | _, [], [] => true
  | lo, o :: os, q :: w => decide (q.1.toInt = lo) && (decide ((pc : Int) + o = (q.2 : Int)) && mm_tsw pc (lo + 1) os w)
  | _, _, _ => false
theorem mm_tsw_at {pc : Nat} : ∀ (lo : Int) (os : List Int) (w : List (Int32 × Nat)), mm_tsw pc lo os w = true → w.length = os.length ∧ ∀ (j : Nat) (q : Int32 × Nat), w[j]? = some q → q.1.toInt = lo + (j : Int) ∧ ∃ o : Int, os[j]? = some o ∧ (pc : Int) + o = (q.2 : Int)
  | lo, [], [], _ => ⟨rfl, fun j q h => by simp at h⟩
  | lo, o :: os, q :: w, h => by
    simp only [mm_tsw, Bool.and_eq_true, decide_eq_true_eq] at h
    obtain ⟨h1, h2, h3⟩ := h
    obtain ⟨e, ih⟩ := mm_tsw_at (lo + 1) os w h3
    refine ⟨by simp [e], fun j z hz => ?_⟩
    cases j with
    | zero => cases hz; exact ⟨by simpa using h1, o, rfl, h2⟩
    | succ j =>
      obtain ⟨a, b, c1, c2⟩ := ih j z hz
      exact ⟨by rw [a]; omega, b, c1, c2⟩
  | _, [], _ :: _, h => by cases h
  | _, _ :: _, [], h => by cases h
theorem gc_jump1 {x : Int32} {tgt : Nat} (hrow : ∀ (H : Heap) (locs : List Loc) (ls : Array Slot) (rest : List Value) (cells slots : Nat), W p l e R s m args below meth c H locs cells slots Q (F0 m tgt ls rest) → W p l e R s m args below meth c H locs cells slots Q (F0 m pc ls (.int x :: rest))) (kk : mm_Gd p l e R s m args below meth c Q D cA Y A nL n0 z0 oc ρ0 Mf tgt L r M) : mm_Gd p l e R s m args below meth c Q D cA Y A nL n0 z0 oc ρ0 Mf pc L (.int x :: r) M := by
  intro hw0 hn0 hz0 hk0 hl0
  obtain ⟨h1, h2⟩ := kk hw0 hn0 hz0 (mm_ks_tail hk0) hl0
  exact ⟨h1, fun ρ H locs ls hr hP hD hS hl => hrow _ _ _ _ _ _ (h2 ρ H locs ls hr hP hD hS hl)⟩
theorem gc_table (hx : p.tables.exec = Jvm.exec) (hb : c.code = cc) {x : Int32} {dflt lo hi : Int} {offs : Array Int} {len d : Nat} {w : List (Int32 × Nat)} {g : Nat → Option mmR} {res : mmR} (hd : decode cc pc = .ok (.tableswitch dflt lo hi offs, len)) (hdf : (pc : Int) + dflt = (d : Int)) (hw : mm_tsw pc lo offs.toList w = true) (hhi : hi + 1 = lo + offs.size) (h : mm_sw x d g w = some res) (kk : ∀ t, g t = some res → mm_Gd p l e R s m args below meth c Q D cA Y A nL n0 z0 oc ρ0 Mf t L r M) : mm_Gd p l e R s m args below meth c Q D cA Y A nL n0 z0 oc ρ0 Mf pc L (.int x :: r) M := by
  obtain ⟨hlen, hat⟩ := mm_tsw_at lo offs.toList w hw
  rcases mm_sw_in w h with ⟨j, q, h1, h2, -, h4⟩ | ⟨h1, h2⟩
  · obtain ⟨a, o, b1, b2⟩ := hat j q h1
    have hj : j < w.length := (List.getElem?_eq_some_iff.mp h1).1
    have hxi : x.toInt = lo + j := by rw [h2]; exact a
    have hsz : offs.toList.length = offs.size := Array.length_toList
    exact gc_jump1 (tgt := q.2) (fun H locs ls rest cells slots k => lv_tableIn hx hb hd (by omega) (by omega) (by rw [show (x.toInt - lo).toNat = j by omega]; rw [← Array.getElem?_toList]; exact b1) b2 k) (kk q.2 h4)
  · refine gc_jump1 (tgt := d) (fun H locs ls rest cells slots k => lv_tableOut hx hb hd ?_ hdf k) (kk d h2)
    by_cases h3 : x.toInt < lo
    · exact Or.inl h3
    · refine Or.inr ?_
      apply Int.lt_of_not_ge
      intro h5
      have hsz : offs.toList.length = offs.size := Array.length_toList
      have hj : (x.toInt - lo).toNat < w.length := by omega
      obtain ⟨q, hq⟩ : ∃ q, w[(x.toInt - lo).toNat]? = some q := ⟨_, List.getElem?_eq_getElem hj⟩
      have a := (hat _ q hq).1
      exact h1 q (List.mem_of_getElem? hq) (Int32.toInt_inj.mp (by rw [a]; omega))
theorem mm_lsw {pc : Nat} {d : Int} {x : Int32} : ∀ (w : List (Int32 × Nat)) (ps : List (Int × Int)), w.map (fun q => (q.1.toInt, (q.2 : Int) - pc)) = ps → (∀ (j : Nat) (q : Int32 × Nat), w[j]? = some q → x = q.1 → (∀ (i : Nat) (z : Int32 × Nat), i < j → w[i]? = some z → x ≠ z.1) → Op.lookupswitch.offset ps d x.toInt = (q.2 : Int) - pc) ∧ ((∀ q ∈ w, x ≠ q.1) → Op.lookupswitch.offset ps d x.toInt = d)
  | [], _, rfl => ⟨fun j q h => by simp at h, fun _ => rfl⟩
  | q :: w, _, rfl => by
    obtain ⟨i1, i2⟩ := mm_lsw (d := d) (x := x) w _ rfl
    refine ⟨fun j z hz hx hall => ?_, fun hall => ?_⟩
    · cases j with
      | zero =>
        cases hz
        rw [List.map_cons, Op.lookupswitch.offset_cons, if_pos (by rw [hx])]
      | succ j =>
        rw [List.map_cons, lv_osw (k := q.1) (hall 0 q (by omega) rfl) rfl]
        exact i1 j z hz hx (fun i y hi hy => hall (i + 1) y (by omega) hy)
    · rw [List.map_cons, lv_osw (k := q.1) (hall q List.mem_cons_self) rfl]
      exact i2 (fun z hz => hall z (List.mem_cons_of_mem _ hz))
theorem gc_lookup (hx : p.tables.exec = Jvm.exec) (hb : c.code = cc) {x : Int32} {dflt : Int} {ps : Array (Int × Int)} {len d : Nat} {w : List (Int32 × Nat)} {g : Nat → Option mmR} {res : mmR} (hd : decode cc pc = .ok (.lookupswitch dflt ps, len)) (hdf : (pc : Int) + dflt = (d : Int)) (hp : (ps.toList.zip (ps.toList.drop 1)).all (fun (a, next) => a.1 < next.1) = true) (hw : w.map (fun q => (q.1.toInt, (q.2 : Int) - pc)) = ps.toList) (h : mm_sw x d g w = some res) (kk : ∀ t, g t = some res → mm_Gd p l e R s m args below meth c Q D cA Y A nL n0 z0 oc ρ0 Mf t L r M) : mm_Gd p l e R s m args below meth c Q D cA Y A nL n0 z0 oc ρ0 Mf pc L (.int x :: r) M := by
  obtain ⟨a1, a2⟩ := mm_lsw (d := dflt) (x := x) w _ hw
  rcases mm_sw_in w h with ⟨j, q, h1, h2, h3, h4⟩ | ⟨h1, h2⟩
  · exact gc_jump1 (tgt := q.2) (fun H locs ls rest cells slots k => lv_lookup hx hb hd hp (a1 j q h1 h2 h3) (by omega) k) (kk q.2 h4)
  · exact gc_jump1 (tgt := d) (fun H locs ls rest cells slots k => lv_lookup hx hb hd hp (a2 h1) hdf k) (kk d h2)

end GC
