/-! the words that the minister's exception needs, and what it finds -/
def NSE : String := "java/util/NoSuchElementException"
def mn_at : List Cond := vx_atX RX11 203 NSE 13 prog_25_method_4_code ["java/lang/RuntimeException", "java/lang/Exception"]
theorem mn_atl : ∀ w ∈ mn_at, w ∈ lw_tbl := by decide +kernel
def mn_b : List Cond := [.castable NSE NSE, .declares (Bundle.initS "java/lang/RuntimeException"), .declares (Bundle.initS "java/lang/Exception"), .declares (Bundle.initS Bundle.tN)]
theorem mn_bad : ∀ w ∈ mn_at.filter (fun w => !goodWord w), w ∈ mn_b := by decide +kernel
theorem mn_bt : ∀ w ∈ mn_b, w.onTables = true := by decide +kernel
theorem mn_bl : ∀ w ∈ mn_b, w ∈ lw_tbl := by decide +kernel
theorem mn_bw {s U : State} (hW : s.WarmedH U.vm) (h : ∀ w ∈ mn_b, va_Nw w s) : ∀ w ∈ mn_b, va_Nw w U := by
  intro w hw
  have h1 := h w hw
  unfold mn_b at hw
  simp only [List.mem_cons, List.not_mem_nil, or_false] at hw
  rcases hw with rfl | rfl | rfl | rfl
  · exact va_Nw.warmC hW h1
  · exact va_Nw.warmD hW h1
  · exact va_Nw.warmD hW h1
  · exact va_Nw.warmD hW h1
theorem mn_ot : ∀ w ∈ Cond.classLink RX11 199 NSE :: Cond.initialized NSE :: mn_at, vx_ot w = true := by decide +kernel
theorem mn_gd : ∀ w ∈ mn_at.filter goodWord, w ∈ mm_gw := fun w hw => List.mem_filter.mpr ⟨mn_atl w (List.mem_filter.mp hw).1, (List.mem_filter.mp hw).2⟩
theorem mn_l1 : Cond.classLink RX11 199 NSE ∈ mm_gw := List.mem_filter.mpr ⟨by decide +kernel, by decide +kernel⟩
theorem mn_l2 : Cond.initialized NSE ∈ mm_gw := List.mem_filter.mpr ⟨by decide +kernel, by decide +kernel⟩
theorem mn_x0 : decode prog_25_method_4_code 0 = .ok (.aload_n 0, 1) := by decide +kernel
theorem mn_x1 : decode prog_25_method_4_code 1 = .ok (.aload_n 1, 1) := by decide +kernel
theorem mn_x2 : decode prog_25_method_4_code 2 = .ok (.invokespecial 13, 3) := by decide +kernel
theorem mn_x5 : decode prog_25_method_4_code 5 = .ok (.return_, 1) := by decide +kernel
theorem mn_d17 : decode cX11_minister 17 = .ok (.new 199, 3) := by decide +kernel
theorem mn_d20 : decode cX11_minister 20 = .ok (.dup, 1) := by decide +kernel
theorem mn_d21 : decode cX11_minister 21 = .ok (.ldc 201, 2) := by decide +kernel
theorem mn_d23 : decode cX11_minister 23 = .ok (.invokespecial 203, 3) := by decide +kernel
theorem mn_d26 : decode cX11_minister 26 = .ok (.athrow, 1) := by decide +kernel
def EXW (A : Nat → Prop) (U : State) : Prop := vx_Zq Bundle.tN "UNASSIGNED_STACK" Bundle.steD A U U.heap ∧ vx_Zq Bundle.tN "SUPPRESSED_SENTINEL" Bundle.listD A U U.heap ∧ (∃ sa, vk_R RX11 201 "no such minister" sa U) ∧ ∀ w ∈ mn_b, va_Nw w U
theorem EXW.mv {A A' : Nat → Prop} {s U : State} {H : Heap} {locs : List Loc} (h : EXW A s) (hS : va_S A s.heap H locs) (hsub : ∀ q, A' q → A q) (hU : U.heap = H) (hW : s.WarmedH U.vm) : EXW A' U := by
  obtain ⟨h1, h2, ⟨sa, h3⟩, h4⟩ := h
  refine ⟨?_, ?_, ⟨sa, vk_R.warm hW h3⟩, mn_bw hW h4⟩
  · rw [hU]; exact vx_Zq.moved hW.alike ((h1.kept hS.2.1).narrow hsub)
  · rw [hU]; exact vx_Zq.moved hW.alike ((h2.kept hS.2.1).narrow hsub)
theorem EXW.bl {A : Nat → Prop} {U : State} {g : JFrame} {mk : MethodId} {a : Array Value} (h : EXW A U) : EXW A (U.calling g mk a) := by
  obtain ⟨h1, h2, ⟨sa, h3⟩, h4⟩ := h
  exact ⟨vx_Zq.moved (u := U) (U := U.calling g mk a) (Vm.Alike.refl U.vm) h1, vx_Zq.moved (u := U) (U := U.calling g mk a) (Vm.Alike.refl U.vm) h2, ⟨sa, vk_R.same (u := U) (U := U.calling g mk a) rfl h3⟩, mn_bw (s := U) (U := U.calling g mk a) (State.WarmedH.refl U) h4⟩
theorem EXW_law {A : Nat → Prop} {s : State} {args : Array Value} (hA : ∀ a : Nat, a < s.heap.size → ¬ A a) (hts : ∀ w ∈ lw_tbl, w.before args s = true) (h : (Jvm.Cond.and given_1 narrow_1).before args s = true) : EXW A s := by
  have hs := flat_of_before _ h
  have hi : (Cond.initialized Bundle.tN).before args s = true := hts _ (by decide +kernel)
  refine ⟨vx_Zqof (hts _ (by decide +kernel)) hi (hs _ (by decide +kernel)) hA, vx_Zqof (hts _ (by decide +kernel)) hi (hs _ (by decide +kernel)) hA, ?_, fun w hw => va_Nw.of (A := args) (mn_bt w hw) (hts w (mn_bl w hw))⟩
  obtain ⟨c1, k1, hc1, -⟩ := Cond.instantiable_spec (hts (.instantiable RX11 19) (by decide +kernel))
  have hp : (Cond.stringRef RX11 201 "no such minister").before args s = true := hts _ (by decide +kernel)
  obtain ⟨k, cf, i, a, -, -, -, -, -, hev⟩ := Cond.stringRef_spec hc1 hp
  exact ⟨a, vk_R.of hp hev⟩
/-! the law's own method -/
def yLm : MethodName := ⟨"WhiskedDuchyLaw", "minister", "(LWhiskedDuchy;II[J)I"⟩
def ml_e : List mmE := [(0, .aload_n 3, 1, 3, 0, 0, .null, []), (1, .iconst 0, 1, 0, 0, 0, .int 0, []), (2, .aload_n 0, 1, 0, 0, 0, .null, []), (3, .iload_n 1, 1, 1, 0, 0, .null, []), (4, .iload_n 2, 1, 2, 0, 0, .null, [])]
def ml_v : List mmE := ml_e ++ [(5, .invokevirtual 7, 3, 107, 2, 177, .null, []), (8, .i2l, 1, 0, 0, 0, .null, []), (9, .lastore, 1, 0, 0, 0, .null, []), (10, .goto 7, 3, 17, 0, 0, .null, []), (17, .iconst 0, 1, 0, 0, 0, .int 0, []), (18, .ireturn, 1, 0, 0, 0, .null, [])]
theorem ka_ml : ml_v.all (fun e => mm_okB mm_mth mm_nest (yLm, method_3_code, 5, some .int) e) = true := by decide +kernel
theorem kb_ml : GoodIn lw_tbl (ml_v.flatMap (fun e => mm_wdE mm_mth yLm.cls e)) := goodIn_of _ (by decide +kernel)
theorem ml_ok : ∀ e ∈ ml_v, mm_okE mm_mth mm_nest (yLm, method_3_code, 5, some .int) e := law_okp ka_ml kb_ml
theorem ml_in : ∀ e ∈ ml_e, e ∈ ml_v := fun e he => List.mem_append_left _ he
def ml_hh : List (Nat × Nat × Nat × Nat) := [(0, 10, 13, 13)]
def ml_w : Cond := Cond.codeWith yLm method_3_code 5 (some .int) ml_hh
noncomputable def ml_ws : List Cond := ml_w :: mm_gw
theorem ml_G : GoodIn lw_tbl (va_wsS R_law 46 yLm ml_ws) := by
  have h1 : ∀ w ∈ va_wsS R_law 46 yLm [ml_w], w ∈ lw_tbl ∧ goodWord w = true := by decide +kernel
  intro w hw
  unfold va_wsS ml_ws at hw
  rcases List.mem_append.mp hw with h | h
  · have := h1 w (by unfold va_wsS; exact List.mem_append_left _ h)
    exact ⟨this.1, good_of_word this.2⟩
  · rcases List.mem_cons.mp h with h | h
    · have := h1 w (by unfold va_wsS; exact List.mem_append_right _ (by rw [h]; exact List.mem_cons_self))
      exact ⟨this.1, good_of_word this.2⟩
    · exact ⟨(List.mem_filter.mp h).1, good_of_word (mm_gw_good h)⟩
theorem ml_l : Cond.classLink R_law 13 NSE ∈ mm_gw := List.mem_filter.mpr ⟨by decide +kernel, by decide +kernel⟩
theorem ml_d5 : decode method_3_code 5 = .ok (.invokevirtual 7, 3) := by decide +kernel
theorem ml_d13 : decode method_3_code 13 = .ok (.astore 4, 2) := by decide +kernel
theorem ml_d15 : decode method_3_code 15 = .ok (.iconst 1, 1) := by decide +kernel
theorem ml_d16 : decode method_3_code 16 = .ok (.ireturn, 1) := by decide +kernel
theorem law_d448 : decode code 448 = .ok (.invokestatic 46, 3) := by decide +kernel
